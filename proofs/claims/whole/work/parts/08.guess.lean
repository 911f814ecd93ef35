/-! ArcGuesser.rankAll()V -/
def X7_rankAll_wp (σ : Sto)  (Post : Sto → Prop) : Prop :=
  (X1_gather_wp σ  (fun σ1 => (X1_mixBy_wp σ1  (fun σ2 => (X1_putInOrder_wp σ2  (fun σ3 => (Post σ3)))))))
set_option maxHeartbeats 4000000 in
set_option maxRecDepth 100000 in
theorem mtX7_rankAll (l : Launch) (D : va_G) (ad : Nat → Nat) (cA : Nat → ClassId) (A : Nat → Prop) (σ : Sto)  (Post : Sto → Prop) (hwp : X7_rankAll_wp σ  Post) : Met l yX7_rankAll wsX7_rankAll ({ frames := 6, cells := 0, slots := 0, locals := 138 }) (va_Pc [.ref (ad 0)] (stW D (tyX cA) nwX (wX ad cA) A σ)) (va_Qv Post (enW D (wX ad cA) A) A) 0 0 A := by
  refine Met.ofW (cc := cX7_rankAll) (maxL := 1) (ret := none) (by decide) rfl ?_
  intro p e s m args below meth c s₁ B hml hv
  obtain ⟨rfl, hA, hN, hP, hK, hD⟩ := hv
  have hx := B.exec
  have hb := B.bytes
  have hr := B.returns
  have hts := atoms_spec (ws := wsX7_rankAll) B.pre
  have hown : s.vm.findClass RX7 = some m.cls := findClass_of_methodNamed B.named
  have hlocks := B.notSynchronized
  have hiX7 : ∀ w ∈ wsX70, w ∈ wsX7_rankAll := by decide +kernel
  have hS : va_S A s.heap s.heap [] := va_S.rf
  have hl := lv_entry ([.ref (ad 0)]) (n := 1) (Nat.le_of_ble_eq_true rfl)
  rw [lg_entry_eq]
  generalize (lg_sl ([.ref (ad 0)]) ++ List.replicate (1 - (lg_sl ([.ref (ad 0)])).length) Slot.unset).toArray = ls at hl ⊢
  have hl : lv_has ls 1 [(0, .ref (ad 0))] := hl
  have hq := hwp
  unfold X7_rankAll_wp at hq
  refine lv_aload_n hx hb dX7_rankAll_0 rfl (lv_at hl 0 rfl) ?_
  refine va_get (D := D) (ci := 7) (v := .ref (ad 14)) (C := RX7) (T := TX7) (N := 7) hx hb hts hiX7 hown hK hP 0 wXg0 rfl 3 (by decide) (hts (.fieldLink RX7 37 "ArcGuesser" "candidates" "LArcGuesser$Candidates;") (List.mem_of_getElem? (i := 1) rfl)) (fun _ h9 => h9) rfl dX7_rankAll_1 ?_
  refine w_callv (va_runVN (As := []) (rest := []) ⟨hx, hb, hml, hown, hts⟩ (mtX1_gather l D ad cA A σ  _ hq) ⟨va_cnB 0 hts ggX7_rankAll_X1_gather rfl rfl rfl (hN (.methodLinkNest RX7 172 yX1_gather "ArcGuesser") (List.mem_of_getElem? (i := 46) rfl)) (hts (.initialized RX1) (List.mem_of_getElem? (i := 4) rfl)) (by decide +kernel) ⟨Nat.le_of_ble_eq_true rfl, Nat.le_of_ble_eq_true rfl⟩, hts (.instanceMethod yX1_gather) (List.mem_of_getElem? (i := 3) rfl), hts (.selects RX1 yX1_gather yX1_gather) (List.mem_of_getElem? (i := 5) rfl)⟩ ⟨stW_blind nwX_ok, va_recv hK hP (ci := 1) (q0 := 14) rfl wXg14, stW_pass hA hS hN hK hP hD nwX_ok⟩ rfl rfl hl.1 rfl (lv_room (Nat.le_of_ble_eq_true rfl)) dX7_rankAll_4 ⟨Nat.le_of_ble_eq_true rfl, Nat.le_of_ble_eq_true rfl⟩) hS (fun σ1 H locs hq hP hD hS => ?_)
  refine lv_aload_n hx hb dX7_rankAll_7 rfl (lv_at hl 0 rfl) ?_
  refine va_get (D := D) (ci := 7) (v := .ref (ad 14)) (C := RX7) (T := TX7) (N := 7) hx hb hts hiX7 hown hK hP 0 wXg0 rfl 3 (by decide) (hts (.fieldLink RX7 37 "ArcGuesser" "candidates" "LArcGuesser$Candidates;") (List.mem_of_getElem? (i := 1) rfl)) (fun _ h9 => h9) rfl dX7_rankAll_8 ?_
  refine lv_aload_n hx hb dX7_rankAll_11 rfl (lv_at hl 0 rfl) ?_
  refine va_get (D := D) (ci := 7) (v := .ref (ad 12)) (C := RX7) (T := TX7) (N := 7) hx hb hts hiX7 hown hK hP 0 wXg0 rfl 2 (by decide) (hts (.fieldLink RX7 30 "ArcGuesser" "mix" "LArcGuesser$Mix;") (List.mem_of_getElem? (i := 2) rfl)) (fun _ h9 => h9) rfl dX7_rankAll_12 ?_
  refine w_callv (va_runVN (As := [.ref (ad 12)]) (rest := []) ⟨hx, hb, hml, hown, hts⟩ (mtX1_mixBy l D ad cA A σ1  _ hq) ⟨va_cnB 1 hts ggX7_rankAll_X1_mixBy rfl rfl rfl (hN (.methodLinkNest RX7 179 yX1_mixBy "ArcGuesser") (List.mem_of_getElem? (i := 48) rfl)) (hts (.initialized RX1) (List.mem_of_getElem? (i := 4) rfl)) (by decide +kernel) ⟨Nat.le_of_ble_eq_true rfl, Nat.le_of_ble_eq_true rfl⟩, hts (.instanceMethod yX1_mixBy) (List.mem_of_getElem? (i := 18) rfl), hts (.selects RX1 yX1_mixBy yX1_mixBy) (List.mem_of_getElem? (i := 19) rfl)⟩ ⟨stW_blind nwX_ok, va_recv hK hP (ci := 1) (q0 := 14) rfl wXg14, stW_pass hA hS hN hK hP hD nwX_ok⟩ rfl rfl hl.1 rfl (lv_room (Nat.le_of_ble_eq_true rfl)) dX7_rankAll_15 ⟨Nat.le_of_ble_eq_true rfl, Nat.le_of_ble_eq_true rfl⟩) hS (fun σ2 H locs hq hP hD hS => ?_)
  refine lv_aload_n hx hb dX7_rankAll_18 rfl (lv_at hl 0 rfl) ?_
  refine va_get (D := D) (ci := 7) (v := .ref (ad 14)) (C := RX7) (T := TX7) (N := 7) hx hb hts hiX7 hown hK hP 0 wXg0 rfl 3 (by decide) (hts (.fieldLink RX7 37 "ArcGuesser" "candidates" "LArcGuesser$Candidates;") (List.mem_of_getElem? (i := 1) rfl)) (fun _ h9 => h9) rfl dX7_rankAll_19 ?_
  refine w_callv (va_runVN (As := []) (rest := []) ⟨hx, hb, hml, hown, hts⟩ (mtX1_putInOrder l D ad cA A σ2  _ hq) ⟨va_cnB 0 hts ggX7_rankAll_X1_putInOrder rfl rfl rfl (hN (.methodLinkNest RX7 222 yX1_putInOrder "ArcGuesser") (List.mem_of_getElem? (i := 59) rfl)) (hts (.initialized RX1) (List.mem_of_getElem? (i := 4) rfl)) (by decide +kernel) ⟨Nat.le_of_ble_eq_true rfl, Nat.le_of_ble_eq_true rfl⟩, hts (.instanceMethod yX1_putInOrder) (List.mem_of_getElem? (i := 100) rfl), hts (.selects RX1 yX1_putInOrder yX1_putInOrder) (List.mem_of_getElem? (i := 101) rfl)⟩ ⟨stW_blind nwX_ok, va_recv hK hP (ci := 1) (q0 := 14) rfl wXg14, stW_pass hA hS hN hK hP hD nwX_ok⟩ rfl rfl hl.1 rfl (lv_room (Nat.le_of_ble_eq_true rfl)) dX7_rankAll_22 ⟨Nat.le_of_ble_eq_true rfl, Nat.le_of_ble_eq_true rfl⟩) hS (fun σ3 H locs hq hP hD hS => ?_)
  exact W.vret hx hb hr (fun t ht hW => ⟨⟨σ3, rfl, hq, by rw [ht]; exact hP, hD⟩, hS.F ht⟩) hS.2.2 dX7_rankAll_25
/-! ArcGuesser.among(I)I -/
def X7_among_wp (σ : Sto) (p1 : Int32) (Post : Int32 → Sto → Prop) : Prop :=
  ((p1 < 0 → (Post (-2 : Int32) σ)) ∧ (¬ p1 < 0 → (X6_candidateTotal_wp σ  (fun r1 σ1 => ((p1 ≤ r1 → (X7_rankAll_wp σ1  (fun σ2 => (X1_foundInFirst_wp σ2 p1 (fun r3 σ3 => (Post r3 σ3)))))) ∧ (¬ p1 ≤ r1 → (Post (-2 : Int32) σ1)))))))
set_option maxHeartbeats 4000000 in
set_option maxRecDepth 100000 in
theorem mtX7_among (l : Launch) (D : va_G) (ad : Nat → Nat) (cA : Nat → ClassId) (A : Nat → Prop) (σ : Sto) (p1 : Int32) (Post : Int32 → Sto → Prop) (hwp : X7_among_wp σ p1 Post) : Met l yX7_among wsX7_among ({ frames := 7, cells := 0, slots := 0, locals := 158 }) (va_Pc [.ref (ad 0), .int p1] (stW D (tyX cA) nwX (wX ad cA) A σ)) (va_Qi Post (enW D (wX ad cA) A) A) 0 0 A := by
  refine Met.ofW (cc := cX7_among) (maxL := 2) (ret := (some .int)) (by decide) rfl ?_
  intro p e s m args below meth c s₁ B hml hv
  obtain ⟨rfl, hA, hN, hP, hK, hD⟩ := hv
  have hx := B.exec
  have hb := B.bytes
  have hr := B.returns
  have hts := atoms_spec (ws := wsX7_among) B.pre
  have hown : s.vm.findClass RX7 = some m.cls := findClass_of_methodNamed B.named
  have hlocks := B.notSynchronized
  have hiX7 : ∀ w ∈ wsX70, w ∈ wsX7_among := by decide +kernel
  have hS : va_S A s.heap s.heap [] := va_S.rf
  have hl := lv_entry ([.ref (ad 0), .int p1]) (n := 2) (Nat.le_of_ble_eq_true rfl)
  rw [lg_entry_eq]
  generalize (lg_sl ([.ref (ad 0), .int p1]) ++ List.replicate (2 - (lg_sl ([.ref (ad 0), .int p1])).length) Slot.unset).toArray = ls at hl ⊢
  have hl : lv_has ls 2 [(0, .ref (ad 0)), (1, .int p1)] := hl
  have hq := hwp
  unfold X7_among_wp at hq
  refine lv_iload_n hx hb dX7_among_0 rfl (lv_at hl 1 rfl) ?_
  refine lv_if_lt (tgt := 15) hx hb dX7_among_1 (by decide) (fun hc => ?_) (fun hc => ?_)
  · have hq := hq.1 hc
    refine lv_bipush (v := (-2 : Int32)) hx hb dX7_among_15 (by decide) ?_
    exact W.iret (v := (-2 : Int32)) hx hb hr (fun t ht hW => ⟨⟨(-2 : Int32), σ, rfl, hq, by rw [ht]; exact hP, hD⟩, hS.F ht⟩) hS.2.2 dX7_among_17
  · have hq := hq.2 hc
    refine lv_iload_n hx hb dX7_among_4 rfl (lv_at hl 1 rfl) ?_
    refine lv_aload_n hx hb dX7_among_5 rfl (lv_at hl 0 rfl) ?_
    refine va_get (D := D) (ci := 7) (v := .ref (ad 1)) (C := RX7) (T := TX7) (N := 7) hx hb hts hiX7 hown hK hP 0 wXg0 rfl 0 (by decide) (hts (.fieldLink RX7 12 "ArcGuesser" "net" "LArcGuesser$Net;") (List.mem_of_getElem? (i := 1) rfl)) (fun _ h9 => h9) rfl dX7_among_6 ?_
    refine w_calli (va_runVN (As := []) (rest := [.int p1]) ⟨hx, hb, hml, hown, hts⟩ (mtX6_candidateTotal l D ad cA A σ  _ hq) ⟨va_cnB 0 hts ggX7_among_X6_candidateTotal rfl rfl rfl (hN (.methodLinkNest RX7 119 yX6_candidateTotal "ArcGuesser") (List.mem_of_getElem? (i := 38) rfl)) (hts (.initialized RX6) (List.mem_of_getElem? (i := 4) rfl)) (by decide +kernel) ⟨Nat.le_of_ble_eq_true rfl, Nat.le_of_ble_eq_true rfl⟩, hts (.instanceMethod yX6_candidateTotal) (List.mem_of_getElem? (i := 3) rfl), hts (.selects RX6 yX6_candidateTotal yX6_candidateTotal) (List.mem_of_getElem? (i := 5) rfl)⟩ ⟨stW_blind nwX_ok, va_recv hK hP (ci := 6) (q0 := 1) rfl wXg1, stW_pass hA hS hN hK hP hD nwX_ok⟩ rfl rfl hl.1 rfl (lv_room (Nat.le_of_ble_eq_true rfl)) dX7_among_9 ⟨Nat.le_of_ble_eq_true rfl, Nat.le_of_ble_eq_true rfl⟩) hS (fun r1 σ1 H locs hq hP hD hS => ?_)
    refine lv_icmp_le (tgt := 18) hx hb dX7_among_12 (by decide) (fun hc => ?_) (fun hc => ?_)
    · have hq := hq.1 hc
      refine lv_aload_n hx hb dX7_among_18 rfl (lv_at hl 0 rfl) ?_
      refine w_callv (va_runV (As := []) (rest := []) ⟨hx, hb, hml, hown, hts⟩ (mtX7_rankAll l D ad cA A σ1  _ hq) (cwV 0 hts gX7_among_X7_rankAll rfl rfl rfl (by decide +kernel) ⟨Nat.le_of_ble_eq_true rfl, Nat.le_of_ble_eq_true rfl⟩) ⟨stW_blind nwX_ok, va_recv hK hP (ci := 7) (q0 := 0) rfl wXg0, stW_pass hA hS hN hK hP hD nwX_ok⟩ rfl rfl hl.1 rfl (lv_room (Nat.le_of_ble_eq_true rfl)) dX7_among_19 ⟨Nat.le_of_ble_eq_true rfl, Nat.le_of_ble_eq_true rfl⟩) hS (fun σ2 H locs hq hP hD hS => ?_)
      refine lv_aload_n hx hb dX7_among_22 rfl (lv_at hl 0 rfl) ?_
      refine va_get (D := D) (ci := 7) (v := .ref (ad 14)) (C := RX7) (T := TX7) (N := 7) hx hb hts hiX7 hown hK hP 0 wXg0 rfl 3 (by decide) (hts (.fieldLink RX7 37 "ArcGuesser" "candidates" "LArcGuesser$Candidates;") (List.mem_of_getElem? (i := 2) rfl)) (fun _ h9 => h9) rfl dX7_among_23 ?_
      refine lv_iload_n hx hb dX7_among_26 rfl (lv_at hl 1 rfl) ?_
      refine w_calli (va_runVN (As := [.int p1]) (rest := []) ⟨hx, hb, hml, hown, hts⟩ (mtX1_foundInFirst l D ad cA A σ2 p1 _ hq) ⟨va_cnB 1 hts ggX7_among_X1_foundInFirst rfl rfl rfl (hN (.methodLinkNest RX7 169 yX1_foundInFirst "ArcGuesser") (List.mem_of_getElem? (i := 45) rfl)) (hts (.initialized RX1) (List.mem_of_getElem? (i := 22) rfl)) (by decide +kernel) ⟨Nat.le_of_ble_eq_true rfl, Nat.le_of_ble_eq_true rfl⟩, hts (.instanceMethod yX1_foundInFirst) (List.mem_of_getElem? (i := 121) rfl), hts (.selects RX1 yX1_foundInFirst yX1_foundInFirst) (List.mem_of_getElem? (i := 122) rfl)⟩ ⟨stW_blind nwX_ok, va_recv hK hP (ci := 1) (q0 := 14) rfl wXg14, stW_pass hA hS hN hK hP hD nwX_ok⟩ rfl rfl hl.1 rfl (lv_room (Nat.le_of_ble_eq_true rfl)) dX7_among_27 ⟨Nat.le_of_ble_eq_true rfl, Nat.le_of_ble_eq_true rfl⟩) hS (fun r3 σ3 H locs hq hP hD hS => ?_)
      exact W.iret (v := r3) hx hb hr (fun t ht hW => ⟨⟨r3, σ3, rfl, hq, by rw [ht]; exact hP, hD⟩, hS.F ht⟩) hS.2.2 dX7_among_30
    · have hq := hq.2 hc
      refine lv_bipush (v := (-2 : Int32)) hx hb dX7_among_15 (by decide) ?_
      exact W.iret (v := (-2 : Int32)) hx hb hr (fun t ht hW => ⟨⟨(-2 : Int32), σ1, rfl, hq, by rw [ht]; exact hP, hD⟩, hS.F ht⟩) hS.2.2 dX7_among_17
/-! ArcGuesser.arc(III)I -/
def X7_arc_wp (σ : Sto) (p1 : Int32) (p2 : Int32) (p3 : Int32) (Post : Int32 → Sto → Prop) : Prop :=
  (X6_pairFor_wp σ p1 p2 (fun r1 σ1 => ((¬ r1 = (-1 : Int32) → (X7_isWithin_wp σ1 p3 (0 : Int32) (9999 : Int32) (fun r2 σ2 => ((¬ r2 = 0 → (vp_in r1 132 ∧ (((σ2.1 4 (r1).toNatClampNeg) = 0 → (X6_addArc_wp σ2 r1 p3 (fun σ3 => (Post (σ3.1 1 3) σ3)))) ∧ (¬ (σ2.1 4 (r1).toNatClampNeg) = 0 → (Post (-3 : Int32) σ2))))) ∧ (r2 = 0 → (Post (-2 : Int32) σ2)))))) ∧ (r1 = (-1 : Int32) → (Post (-1 : Int32) σ1)))))
set_option maxHeartbeats 4000000 in
set_option maxRecDepth 100000 in
theorem mtX7_arc (l : Launch) (D : va_G) (ad : Nat → Nat) (cA : Nat → ClassId) (A : Nat → Prop) (σ : Sto) (p1 : Int32) (p2 : Int32) (p3 : Int32) (Post : Int32 → Sto → Prop) (hwp : X7_arc_wp σ p1 p2 p3 Post) : Met l yX7_arc wsX7_arc ({ frames := 3, cells := 0, slots := 0, locals := 69 }) (va_Pc [.ref (ad 0), .int p1, .int p2, .int p3] (stW D (tyX cA) nwX (wX ad cA) A σ)) (va_Qi Post (enW D (wX ad cA) A) A) 0 0 A := by
  refine Met.ofW (cc := cX7_arc) (maxL := 5) (ret := (some .int)) (by decide) rfl ?_
  intro p e s m args below meth c s₁ B hml hv
  obtain ⟨rfl, hA, hN, hP, hK, hD⟩ := hv
  have hx := B.exec
  have hb := B.bytes
  have hr := B.returns
  have hts := atoms_spec (ws := wsX7_arc) B.pre
  have hown : s.vm.findClass RX7 = some m.cls := findClass_of_methodNamed B.named
  have hlocks := B.notSynchronized
  have hiX6 : ∀ w ∈ wsX60, w ∈ wsX7_arc := by decide +kernel
  have hiX7 : ∀ w ∈ wsX70, w ∈ wsX7_arc := by decide +kernel
  have hS : va_S A s.heap s.heap [] := va_S.rf
  have hl := lv_entry ([.ref (ad 0), .int p1, .int p2, .int p3]) (n := 5) (Nat.le_of_ble_eq_true rfl)
  rw [lg_entry_eq]
  generalize (lg_sl ([.ref (ad 0), .int p1, .int p2, .int p3]) ++ List.replicate (5 - (lg_sl ([.ref (ad 0), .int p1, .int p2, .int p3])).length) Slot.unset).toArray = ls at hl ⊢
  have hl : lv_has ls 5 [(0, .ref (ad 0)), (1, .int p1), (2, .int p2), (3, .int p3)] := hl
  have hq := hwp
  unfold X7_arc_wp at hq
  refine lv_aload_n hx hb dX7_arc_0 rfl (lv_at hl 0 rfl) ?_
  refine va_get (D := D) (ci := 7) (v := .ref (ad 1)) (C := RX7) (T := TX7) (N := 7) hx hb hts hiX7 hown hK hP 0 wXg0 rfl 0 (by decide) (hts (.fieldLink RX7 12 "ArcGuesser" "net" "LArcGuesser$Net;") (List.mem_of_getElem? (i := 1) rfl)) (fun _ h9 => h9) rfl dX7_arc_1 ?_
  refine lv_iload_n hx hb dX7_arc_4 rfl (lv_at hl 1 rfl) ?_
  refine lv_iload_n hx hb dX7_arc_5 rfl (lv_at hl 2 rfl) ?_
  refine w_calli (va_runVN (As := [.int p1, .int p2]) (rest := []) ⟨hx, hb, hml, hown, hts⟩ (mtX6_pairFor l D ad cA A σ p1 p2 _ hq) ⟨va_cnB 2 hts ggX7_arc_X6_pairFor rfl rfl rfl (hN (.methodLinkNest RX7 74 yX6_pairFor "ArcGuesser") (List.mem_of_getElem? (i := 31) rfl)) (hts (.initialized RX6) (List.mem_of_getElem? (i := 3) rfl)) (by decide +kernel) ⟨Nat.le_of_ble_eq_true rfl, Nat.le_of_ble_eq_true rfl⟩, hts (.instanceMethod yX6_pairFor) (List.mem_of_getElem? (i := 2) rfl), hts (.selects RX6 yX6_pairFor yX6_pairFor) (List.mem_of_getElem? (i := 4) rfl)⟩ ⟨stW_blind nwX_ok, va_recv hK hP (ci := 6) (q0 := 1) rfl wXg1, stW_pass hA hS hN hK hP hD nwX_ok⟩ rfl rfl hl.1 rfl (lv_room (Nat.le_of_ble_eq_true rfl)) dX7_arc_6 ⟨Nat.le_of_ble_eq_true rfl, Nat.le_of_ble_eq_true rfl⟩) hS (fun r1 σ1 H locs hq hP hD hS => ?_)
  refine lv_istore (lv' := [(4, .int r1), (0, .ref (ad 0)), (1, .int p1), (2, .int p2), (3, .int p3)]) hx hb dX7_arc_9 hl (by decide) rfl (fun ls hl => ?_)
  refine lv_iload hx hb dX7_arc_11 (lv_at hl 0 rfl) ?_
  refine lv_iconst (v := (-1 : Int32)) hx hb dX7_arc_13 (by decide) ?_
  refine lv_icmp_ne (tgt := 19) hx hb dX7_arc_14 (by decide) (fun hc => ?_) (fun hc => ?_)
  · have hq := hq.1 hc
    refine lv_iload_n hx hb dX7_arc_19 rfl (lv_at hl 4 rfl) ?_
    refine lv_iconst (v := (0 : Int32)) hx hb dX7_arc_20 (by decide) ?_
    refine lv_sipush (v := (9999 : Int32)) hx hb dX7_arc_21 (by decide) ?_
    refine w_calli (va_runS (As := [.int p3, .int (0 : Int32), .int (9999 : Int32)]) (rest := []) ⟨hx, hb, hml, hown, hts⟩ (mtX7_isWithin l D ad cA A σ1 p3 (0 : Int32) (9999 : Int32) _ hq) (va_cwS 3 hts gX7_arc_X7_isWithin rfl rfl rfl (by decide +kernel) ⟨Nat.le_of_ble_eq_true rfl, Nat.le_of_ble_eq_true rfl⟩) ⟨stW_blind nwX_ok, stW_pass hA hS hN hK hP hD nwX_ok⟩ rfl rfl hl.1 rfl (lv_room (Nat.le_of_ble_eq_true rfl)) dX7_arc_24 ⟨Nat.le_of_ble_eq_true rfl, Nat.le_of_ble_eq_true rfl⟩) hS (fun r2 σ2 H locs hq hP hD hS => ?_)
    refine lv_if_ne (tgt := 33) hx hb dX7_arc_27 (by decide) (fun hc => ?_) (fun hc => ?_)
    · have hq := hq.1 hc
      refine lv_aload_n hx hb dX7_arc_33 rfl (lv_at hl 1 rfl) ?_
      refine va_get (D := D) (ci := 7) (v := .ref (ad 1)) (C := RX7) (T := TX7) (N := 7) hx hb hts hiX7 hown hK hP 0 wXg0 rfl 0 (by decide) (hts (.fieldLink RX7 12 "ArcGuesser" "net" "LArcGuesser$Net;") (List.mem_of_getElem? (i := 1) rfl)) (fun _ h9 => h9) rfl dX7_arc_34 ?_
      refine va_getN (D := D) (ci := 6) (v := .ref (ad 4)) (C := RX6) (T := TX6) (N := 13) hx hb hts hiX6 hown hK hP 1 wXg1 rfl 6 (by decide) (va_Nw.use rfl (hN (.fieldLinkNest RX7 78 "ArcGuesser$Net" "states" "[I" "ArcGuesser") (List.mem_of_getElem? (i := 1) rfl))) (fun _ h9 => h9) rfl dX7_arc_37 ?_
      refine lv_iload hx hb dX7_arc_40 (lv_at hl 0 rfl) ?_
      refine va_iald hx hb hK hP 4 0 wXg4 rfl hq.1 dX7_arc_42 ?_
      have hq := hq.2
      refine lv_if_eq (tgt := 49) hx hb dX7_arc_43 (by decide) (fun hc => ?_) (fun hc => ?_)
      · have hq := hq.1 hc
        refine lv_aload_n hx hb dX7_arc_49 rfl (lv_at hl 1 rfl) ?_
        refine va_get (D := D) (ci := 7) (v := .ref (ad 1)) (C := RX7) (T := TX7) (N := 7) hx hb hts hiX7 hown hK hP 0 wXg0 rfl 0 (by decide) (hts (.fieldLink RX7 12 "ArcGuesser" "net" "LArcGuesser$Net;") (List.mem_of_getElem? (i := 1) rfl)) (fun _ h9 => h9) rfl dX7_arc_50 ?_
        refine lv_iload hx hb dX7_arc_53 (lv_at hl 0 rfl) ?_
        refine lv_iload_n hx hb dX7_arc_55 rfl (lv_at hl 4 rfl) ?_
        refine w_callv (va_runVN (As := [.int r1, .int p3]) (rest := []) ⟨hx, hb, hml, hown, hts⟩ (mtX6_addArc l D ad cA A σ2 r1 p3 _ hq) ⟨va_cnB 2 hts ggX7_arc_X6_addArc rfl rfl rfl (hN (.methodLinkNest RX7 82 yX6_addArc "ArcGuesser") (List.mem_of_getElem? (i := 32) rfl)) (hts (.initialized RX6) (List.mem_of_getElem? (i := 3) rfl)) (by decide +kernel) ⟨Nat.le_of_ble_eq_true rfl, Nat.le_of_ble_eq_true rfl⟩, hts (.instanceMethod yX6_addArc) (List.mem_of_getElem? (i := 16) rfl), hts (.selects RX6 yX6_addArc yX6_addArc) (List.mem_of_getElem? (i := 17) rfl)⟩ ⟨stW_blind nwX_ok, va_recv hK hP (ci := 6) (q0 := 1) rfl wXg1, stW_pass hA hS hN hK hP hD nwX_ok⟩ rfl rfl hl.1 rfl (lv_room (Nat.le_of_ble_eq_true rfl)) dX7_arc_56 ⟨Nat.le_of_ble_eq_true rfl, Nat.le_of_ble_eq_true rfl⟩) hS (fun σ3 H locs hq hP hD hS => ?_)
        refine lv_aload_n hx hb dX7_arc_59 rfl (lv_at hl 1 rfl) ?_
        refine va_get (D := D) (ci := 7) (v := .ref (ad 1)) (C := RX7) (T := TX7) (N := 7) hx hb hts hiX7 hown hK hP 0 wXg0 rfl 0 (by decide) (hts (.fieldLink RX7 12 "ArcGuesser" "net" "LArcGuesser$Net;") (List.mem_of_getElem? (i := 1) rfl)) (fun _ h9 => h9) rfl dX7_arc_60 ?_
        refine va_getN (D := D) (ci := 6) (v := .int (σ3.1 1 3)) (C := RX6) (T := TX6) (N := 13) hx hb hts hiX6 hown hK hP 1 wXg1 rfl 3 (by decide) (va_Nw.use rfl (hN (.fieldLinkNest RX7 85 "ArcGuesser$Net" "arcTotal" "I" "ArcGuesser") (List.mem_of_getElem? (i := 2) rfl))) (fun _ h9 => h9) rfl dX7_arc_63 ?_
        exact W.iret (v := (σ3.1 1 3)) hx hb hr (fun t ht hW => ⟨⟨(σ3.1 1 3), σ3, rfl, hq, by rw [ht]; exact hP, hD⟩, hS.F ht⟩) hS.2.2 dX7_arc_66
      · have hq := hq.2 hc
        refine lv_bipush (v := (-3 : Int32)) hx hb dX7_arc_46 (by decide) ?_
        exact W.iret (v := (-3 : Int32)) hx hb hr (fun t ht hW => ⟨⟨(-3 : Int32), σ2, rfl, hq, by rw [ht]; exact hP, hD⟩, hS.F ht⟩) hS.2.2 dX7_arc_48
    · have hq := hq.2 hc
      refine lv_bipush (v := (-2 : Int32)) hx hb dX7_arc_30 (by decide) ?_
      exact W.iret (v := (-2 : Int32)) hx hb hr (fun t ht hW => ⟨⟨(-2 : Int32), σ2, rfl, hq, by rw [ht]; exact hP, hD⟩, hS.F ht⟩) hS.2.2 dX7_arc_32
  · have hq := hq.2 hc
    refine lv_iconst (v := (-1 : Int32)) hx hb dX7_arc_17 (by decide) ?_
    exact W.iret (v := (-1 : Int32)) hx hb hr (fun t ht hW => ⟨⟨(-1 : Int32), σ1, rfl, hq, by rw [ht]; exact hP, hD⟩, hS.F ht⟩) hS.2.2 dX7_arc_18
/-! ArcGuesser.bottom()J -/
def X7_bottom_wp (σ : Sto)  (Post : Int64 → Sto → Prop) : Prop :=
  (Post (σ.2 29 1) σ)
set_option maxHeartbeats 4000000 in
set_option maxRecDepth 100000 in
theorem mtX7_bottom (l : Launch) (D : va_G) (ad : Nat → Nat) (cA : Nat → ClassId) (A : Nat → Prop) (σ : Sto)  (Post : Int64 → Sto → Prop) (hwp : X7_bottom_wp σ  Post) : Met l yX7_bottom wsX7_bottom ({ frames := 0, cells := 0, slots := 0, locals := 0 }) (va_Pc [.ref (ad 0)] (stW D (tyX cA) nwX (wX ad cA) A σ)) (va_Ql Post (enW D (wX ad cA) A) A) 0 0 A := by
  refine Met.ofW (cc := cX7_bottom) (maxL := 1) (ret := (some .long)) (by decide) rfl ?_
  intro p e s m args below meth c s₁ B hml hv
  obtain ⟨rfl, hA, hN, hP, hK, hD⟩ := hv
  have hx := B.exec
  have hb := B.bytes
  have hr := B.returns
  have hts := atoms_spec (ws := wsX7_bottom) B.pre
  have hown : s.vm.findClass RX7 = some m.cls := findClass_of_methodNamed B.named
  have hlocks := B.notSynchronized
  have hiX0 : ∀ w ∈ wsX00, w ∈ wsX7_bottom := by decide +kernel
  have hiX7 : ∀ w ∈ wsX70, w ∈ wsX7_bottom := by decide +kernel
  have hS : va_S A s.heap s.heap [] := va_S.rf
  have hl := lv_entry ([.ref (ad 0)]) (n := 1) (Nat.le_of_ble_eq_true rfl)
  rw [lg_entry_eq]
  generalize (lg_sl ([.ref (ad 0)]) ++ List.replicate (1 - (lg_sl ([.ref (ad 0)])).length) Slot.unset).toArray = ls at hl ⊢
  have hl : lv_has ls 1 [(0, .ref (ad 0))] := hl
  have hq := hwp
  unfold X7_bottom_wp at hq
  refine lv_aload_n hx hb dX7_bottom_0 rfl (lv_at hl 0 rfl) ?_
  refine va_get (D := D) (ci := 7) (v := .ref (ad 29)) (C := RX7) (T := TX7) (N := 7) hx hb hts hiX7 hown hK hP 0 wXg0 rfl 6 (by decide) (hts (.fieldLink RX7 58 "ArcGuesser" "board" "LArcGuesser$Board;") (List.mem_of_getElem? (i := 1) rfl)) (fun _ h9 => h9) rfl dX7_bottom_1 ?_
  refine va_getN (D := D) (ci := 0) (v := .long (σ.2 29 1)) (C := RX0) (T := TX0) (N := 2) hx hb hts hiX0 hown hK hP 29 wXg29 rfl 1 (by decide) (va_Nw.use rfl (hN (.fieldLinkNest RX7 150 "ArcGuesser$Board" "below" "J" "ArcGuesser") (List.mem_of_getElem? (i := 9) rfl))) (fun _ h9 => h9) rfl dX7_bottom_4 ?_
  exact W.lret (v := (σ.2 29 1)) hx hb hr (fun t ht hW => ⟨⟨(σ.2 29 1), σ, rfl, hq, by rw [ht]; exact hP, hD⟩, hS.F ht⟩) hS.2.2 dX7_bottom_7
/-! ArcGuesser.count(I)I -/
def X7_count_wp (σ : Sto) (p1 : Int32) (Post : Int32 → Sto → Prop) : Prop :=
  ((p1 = (0 : Int32) → (Post (σ.1 1 0) σ)) ∧ (p1 = (1 : Int32) → (Post (σ.1 1 2) σ)) ∧ (p1 = (2 : Int32) → (Post (σ.1 1 3) σ)) ∧ (p1 = (3 : Int32) → (X6_hiddenArcs_wp σ  (fun r1 σ1 => (Post r1 σ1)))) ∧ (p1 = (4 : Int32) → (X6_candidateTotal_wp σ  (fun r2 σ2 => (Post r2 σ2)))) ∧ (¬ p1 = (0 : Int32) → ¬ p1 = (1 : Int32) → ¬ p1 = (2 : Int32) → ¬ p1 = (3 : Int32) → ¬ p1 = (4 : Int32) → (Post (-2 : Int32) σ)))
set_option maxHeartbeats 4000000 in
set_option maxRecDepth 100000 in
theorem mtX7_count (l : Launch) (D : va_G) (ad : Nat → Nat) (cA : Nat → ClassId) (A : Nat → Prop) (σ : Sto) (p1 : Int32) (Post : Int32 → Sto → Prop) (hwp : X7_count_wp σ p1 Post) : Met l yX7_count wsX7_count ({ frames := 2, cells := 0, slots := 0, locals := 42 }) (va_Pc [.ref (ad 0), .int p1] (stW D (tyX cA) nwX (wX ad cA) A σ)) (va_Qi Post (enW D (wX ad cA) A) A) 0 0 A := by
  refine Met.ofW (cc := cX7_count) (maxL := 2) (ret := (some .int)) (by decide) rfl ?_
  intro p e s m args below meth c s₁ B hml hv
  obtain ⟨rfl, hA, hN, hP, hK, hD⟩ := hv
  have hx := B.exec
  have hb := B.bytes
  have hr := B.returns
  have hts := atoms_spec (ws := wsX7_count) B.pre
  have hown : s.vm.findClass RX7 = some m.cls := findClass_of_methodNamed B.named
  have hlocks := B.notSynchronized
  have hiX6 : ∀ w ∈ wsX60, w ∈ wsX7_count := by decide +kernel
  have hiX7 : ∀ w ∈ wsX70, w ∈ wsX7_count := by decide +kernel
  have hS : va_S A s.heap s.heap [] := va_S.rf
  have hl := lv_entry ([.ref (ad 0), .int p1]) (n := 2) (Nat.le_of_ble_eq_true rfl)
  rw [lg_entry_eq]
  generalize (lg_sl ([.ref (ad 0), .int p1]) ++ List.replicate (2 - (lg_sl ([.ref (ad 0), .int p1])).length) Slot.unset).toArray = ls at hl ⊢
  have hl : lv_has ls 2 [(0, .ref (ad 0)), (1, .int p1)] := hl
  have hq := hwp
  unfold X7_count_wp at hq
  refine lv_iload_n hx hb dX7_count_0 rfl (lv_at hl 1 rfl) ?_
  by_cases hc0 : p1 = (0 : Int32)
  · have hq := hq.1 hc0
    refine lv_tableIn (off := 35) (tgt := 36) hx hb dX7_count_1 (by rw [hc0]; decide) (by rw [hc0]; decide) (by rw [hc0]; rfl) (by decide) ?_
    refine lv_aload_n hx hb dX7_count_36 rfl (lv_at hl 0 rfl) ?_
    refine va_get (D := D) (ci := 7) (v := .ref (ad 1)) (C := RX7) (T := TX7) (N := 7) hx hb hts hiX7 hown hK hP 0 wXg0 rfl 0 (by decide) (hts (.fieldLink RX7 12 "ArcGuesser" "net" "LArcGuesser$Net;") (List.mem_of_getElem? (i := 1) rfl)) (fun _ h9 => h9) rfl dX7_count_37 ?_
    refine va_getN (D := D) (ci := 6) (v := .int (σ.1 1 0)) (C := RX6) (T := TX6) (N := 13) hx hb hts hiX6 hown hK hP 1 wXg1 rfl 0 (by decide) (va_Nw.use rfl (hN (.fieldLinkNest RX7 116 "ArcGuesser$Net" "nodes" "I" "ArcGuesser") (List.mem_of_getElem? (i := 6) rfl))) (fun _ h9 => h9) rfl dX7_count_40 ?_
    exact W.iret (v := (σ.1 1 0)) hx hb hr (fun t ht hW => ⟨⟨(σ.1 1 0), σ, rfl, hq, by rw [ht]; exact hP, hD⟩, hS.F ht⟩) hS.2.2 dX7_count_43
  have hq := hq.2
  by_cases hc1 : p1 = (1 : Int32)
  · have hq := hq.1 hc1
    refine lv_tableIn (off := 43) (tgt := 44) hx hb dX7_count_1 (by rw [hc1]; decide) (by rw [hc1]; decide) (by rw [hc1]; rfl) (by decide) ?_
    refine lv_aload_n hx hb dX7_count_44 rfl (lv_at hl 0 rfl) ?_
    refine va_get (D := D) (ci := 7) (v := .ref (ad 1)) (C := RX7) (T := TX7) (N := 7) hx hb hts hiX7 hown hK hP 0 wXg0 rfl 0 (by decide) (hts (.fieldLink RX7 12 "ArcGuesser" "net" "LArcGuesser$Net;") (List.mem_of_getElem? (i := 1) rfl)) (fun _ h9 => h9) rfl dX7_count_45 ?_
    refine va_getN (D := D) (ci := 6) (v := .int (σ.1 1 2)) (C := RX6) (T := TX6) (N := 13) hx hb hts hiX6 hown hK hP 1 wXg1 rfl 2 (by decide) (va_Nw.use rfl (hN (.fieldLinkNest RX7 70 "ArcGuesser$Net" "pairTotal" "I" "ArcGuesser") (List.mem_of_getElem? (i := 0) rfl))) (fun _ h9 => h9) rfl dX7_count_48 ?_
    exact W.iret (v := (σ.1 1 2)) hx hb hr (fun t ht hW => ⟨⟨(σ.1 1 2), σ, rfl, hq, by rw [ht]; exact hP, hD⟩, hS.F ht⟩) hS.2.2 dX7_count_51
  have hq := hq.2
  by_cases hc2 : p1 = (2 : Int32)
  · have hq := hq.1 hc2
    refine lv_tableIn (off := 51) (tgt := 52) hx hb dX7_count_1 (by rw [hc2]; decide) (by rw [hc2]; decide) (by rw [hc2]; rfl) (by decide) ?_
    refine lv_aload_n hx hb dX7_count_52 rfl (lv_at hl 0 rfl) ?_
    refine va_get (D := D) (ci := 7) (v := .ref (ad 1)) (C := RX7) (T := TX7) (N := 7) hx hb hts hiX7 hown hK hP 0 wXg0 rfl 0 (by decide) (hts (.fieldLink RX7 12 "ArcGuesser" "net" "LArcGuesser$Net;") (List.mem_of_getElem? (i := 1) rfl)) (fun _ h9 => h9) rfl dX7_count_53 ?_
    refine va_getN (D := D) (ci := 6) (v := .int (σ.1 1 3)) (C := RX6) (T := TX6) (N := 13) hx hb hts hiX6 hown hK hP 1 wXg1 rfl 3 (by decide) (va_Nw.use rfl (hN (.fieldLinkNest RX7 85 "ArcGuesser$Net" "arcTotal" "I" "ArcGuesser") (List.mem_of_getElem? (i := 2) rfl))) (fun _ h9 => h9) rfl dX7_count_56 ?_
    exact W.iret (v := (σ.1 1 3)) hx hb hr (fun t ht hW => ⟨⟨(σ.1 1 3), σ, rfl, hq, by rw [ht]; exact hP, hD⟩, hS.F ht⟩) hS.2.2 dX7_count_59
  have hq := hq.2
  by_cases hc3 : p1 = (3 : Int32)
  · have hq := hq.1 hc3
    refine lv_tableIn (off := 59) (tgt := 60) hx hb dX7_count_1 (by rw [hc3]; decide) (by rw [hc3]; decide) (by rw [hc3]; rfl) (by decide) ?_
    refine lv_aload_n hx hb dX7_count_60 rfl (lv_at hl 0 rfl) ?_
    refine va_get (D := D) (ci := 7) (v := .ref (ad 1)) (C := RX7) (T := TX7) (N := 7) hx hb hts hiX7 hown hK hP 0 wXg0 rfl 0 (by decide) (hts (.fieldLink RX7 12 "ArcGuesser" "net" "LArcGuesser$Net;") (List.mem_of_getElem? (i := 1) rfl)) (fun _ h9 => h9) rfl dX7_count_61 ?_
    refine w_calli (va_runVN (As := []) (rest := []) ⟨hx, hb, hml, hown, hts⟩ (mtX6_hiddenArcs l D ad cA A σ  _ hq) ⟨va_cnB 0 hts ggX7_count_X6_hiddenArcs rfl rfl rfl (hN (.methodLinkNest RX7 105 yX6_hiddenArcs "ArcGuesser") (List.mem_of_getElem? (i := 35) rfl)) (hts (.initialized RX6) (List.mem_of_getElem? (i := 3) rfl)) (by decide +kernel) ⟨Nat.le_of_ble_eq_true rfl, Nat.le_of_ble_eq_true rfl⟩, hts (.instanceMethod yX6_hiddenArcs) (List.mem_of_getElem? (i := 2) rfl), hts (.selects RX6 yX6_hiddenArcs yX6_hiddenArcs) (List.mem_of_getElem? (i := 4) rfl)⟩ ⟨stW_blind nwX_ok, va_recv hK hP (ci := 6) (q0 := 1) rfl wXg1, stW_pass hA hS hN hK hP hD nwX_ok⟩ rfl rfl hl.1 rfl (lv_room (Nat.le_of_ble_eq_true rfl)) dX7_count_64 ⟨Nat.le_of_ble_eq_true rfl, Nat.le_of_ble_eq_true rfl⟩) hS (fun r1 σ1 H locs hq hP hD hS => ?_)
    exact W.iret (v := r1) hx hb hr (fun t ht hW => ⟨⟨r1, σ1, rfl, hq, by rw [ht]; exact hP, hD⟩, hS.F ht⟩) hS.2.2 dX7_count_67
  have hq := hq.2
  by_cases hc4 : p1 = (4 : Int32)
  · have hq := hq.1 hc4
    refine lv_tableIn (off := 67) (tgt := 68) hx hb dX7_count_1 (by rw [hc4]; decide) (by rw [hc4]; decide) (by rw [hc4]; rfl) (by decide) ?_
    refine lv_aload_n hx hb dX7_count_68 rfl (lv_at hl 0 rfl) ?_
    refine va_get (D := D) (ci := 7) (v := .ref (ad 1)) (C := RX7) (T := TX7) (N := 7) hx hb hts hiX7 hown hK hP 0 wXg0 rfl 0 (by decide) (hts (.fieldLink RX7 12 "ArcGuesser" "net" "LArcGuesser$Net;") (List.mem_of_getElem? (i := 1) rfl)) (fun _ h9 => h9) rfl dX7_count_69 ?_
    refine w_calli (va_runVN (As := []) (rest := []) ⟨hx, hb, hml, hown, hts⟩ (mtX6_candidateTotal l D ad cA A σ  _ hq) ⟨va_cnB 0 hts ggX7_count_X6_candidateTotal rfl rfl rfl (hN (.methodLinkNest RX7 119 yX6_candidateTotal "ArcGuesser") (List.mem_of_getElem? (i := 38) rfl)) (hts (.initialized RX6) (List.mem_of_getElem? (i := 3) rfl)) (by decide +kernel) ⟨Nat.le_of_ble_eq_true rfl, Nat.le_of_ble_eq_true rfl⟩, hts (.instanceMethod yX6_candidateTotal) (List.mem_of_getElem? (i := 9) rfl), hts (.selects RX6 yX6_candidateTotal yX6_candidateTotal) (List.mem_of_getElem? (i := 10) rfl)⟩ ⟨stW_blind nwX_ok, va_recv hK hP (ci := 6) (q0 := 1) rfl wXg1, stW_pass hA hS hN hK hP hD nwX_ok⟩ rfl rfl hl.1 rfl (lv_room (Nat.le_of_ble_eq_true rfl)) dX7_count_72 ⟨Nat.le_of_ble_eq_true rfl, Nat.le_of_ble_eq_true rfl⟩) hS (fun r2 σ2 H locs hq hP hD hS => ?_)
    exact W.iret (v := r2) hx hb hr (fun t ht hW => ⟨⟨r2, σ2, rfl, hq, by rw [ht]; exact hP, hD⟩, hS.F ht⟩) hS.2.2 dX7_count_75
  have hq := hq.2
  have hq := hq hc0 hc1 hc2 hc3 hc4
  refine lv_tableOut (tgt := 76) hx hb dX7_count_1 (by have e0 := lv_neT hc0 (a := 0) (by decide); have e1 := lv_neT hc1 (a := 1) (by decide); have e2 := lv_neT hc2 (a := 2) (by decide); have e3 := lv_neT hc3 (a := 3) (by decide); have e4 := lv_neT hc4 (a := 4) (by decide); omega) (by decide) ?_
  refine lv_bipush (v := (-2 : Int32)) hx hb dX7_count_76 (by decide) ?_
  exact W.iret (v := (-2 : Int32)) hx hb hr (fun t ht hW => ⟨⟨(-2 : Int32), σ, rfl, hq, by rw [ht]; exact hP, hD⟩, hS.F ht⟩) hS.2.2 dX7_count_78
/-! ArcGuesser.startAnew(II)V -/
def X7_startAnew_wp (σ : Sto) (p1 : Int32) (p2 : Int32) (Post : Sto → Prop) : Prop :=
  (X6_lay_wp σ p1 p2 (fun σ1 => (X4_setPaths_wp σ1 (1 : Int32) (1 : Int32) (2 : Int32) (fun σ2 => (X5_reset_wp σ2  (fun σ3 => (X0_show_wp σ3 (0 : Int64) (1 : Int64) (fun σ4 => (Post σ4)))))))))
set_option maxHeartbeats 4000000 in
set_option maxRecDepth 100000 in
theorem mtX7_startAnew (l : Launch) (D : va_G) (ad : Nat → Nat) (cA : Nat → ClassId) (A : Nat → Prop) (σ : Sto) (p1 : Int32) (p2 : Int32) (Post : Sto → Prop) (hwp : X7_startAnew_wp σ p1 p2 Post) : Met l yX7_startAnew wsX7_startAnew ({ frames := 2, cells := 0, slots := 0, locals := 56 }) (va_Pc [.ref (ad 0), .int p1, .int p2] (stW D (tyX cA) nwX (wX ad cA) A σ)) (va_Qv Post (enW D (wX ad cA) A) A) 0 0 A := by
  refine Met.ofW (cc := cX7_startAnew) (maxL := 3) (ret := none) (by decide) rfl ?_
  intro p e s m args below meth c s₁ B hml hv
  obtain ⟨rfl, hA, hN, hP, hK, hD⟩ := hv
  have hx := B.exec
  have hb := B.bytes
  have hr := B.returns
  have hts := atoms_spec (ws := wsX7_startAnew) B.pre
  have hown : s.vm.findClass RX7 = some m.cls := findClass_of_methodNamed B.named
  have hlocks := B.notSynchronized
  have hiX7 : ∀ w ∈ wsX70, w ∈ wsX7_startAnew := by decide +kernel
  have hS : va_S A s.heap s.heap [] := va_S.rf
  have hl := lv_entry ([.ref (ad 0), .int p1, .int p2]) (n := 3) (Nat.le_of_ble_eq_true rfl)
  rw [lg_entry_eq]
  generalize (lg_sl ([.ref (ad 0), .int p1, .int p2]) ++ List.replicate (3 - (lg_sl ([.ref (ad 0), .int p1, .int p2])).length) Slot.unset).toArray = ls at hl ⊢
  have hl : lv_has ls 3 [(0, .ref (ad 0)), (1, .int p1), (2, .int p2)] := hl
  have hq := hwp
  unfold X7_startAnew_wp at hq
  refine lv_aload_n hx hb dX7_startAnew_0 rfl (lv_at hl 0 rfl) ?_
  refine va_get (D := D) (ci := 7) (v := .ref (ad 1)) (C := RX7) (T := TX7) (N := 7) hx hb hts hiX7 hown hK hP 0 wXg0 rfl 0 (by decide) (hts (.fieldLink RX7 12 "ArcGuesser" "net" "LArcGuesser$Net;") (List.mem_of_getElem? (i := 1) rfl)) (fun _ h9 => h9) rfl dX7_startAnew_1 ?_
  refine lv_iload_n hx hb dX7_startAnew_4 rfl (lv_at hl 1 rfl) ?_
  refine lv_iload_n hx hb dX7_startAnew_5 rfl (lv_at hl 2 rfl) ?_
  refine w_callv (va_runVN (As := [.int p1, .int p2]) (rest := []) ⟨hx, hb, hml, hown, hts⟩ (mtX6_lay l D ad cA A σ p1 p2 _ hq) ⟨va_cnB 2 hts ggX7_startAnew_X6_lay rfl rfl rfl (hN (.methodLinkNest RX7 216 yX6_lay "ArcGuesser") (List.mem_of_getElem? (i := 57) rfl)) (hts (.initialized RX6) (List.mem_of_getElem? (i := 6) rfl)) (by decide +kernel) ⟨Nat.le_of_ble_eq_true rfl, Nat.le_of_ble_eq_true rfl⟩, hts (.instanceMethod yX6_lay) (List.mem_of_getElem? (i := 5) rfl), hts (.selects RX6 yX6_lay yX6_lay) (List.mem_of_getElem? (i := 7) rfl)⟩ ⟨stW_blind nwX_ok, va_recv hK hP (ci := 6) (q0 := 1) rfl wXg1, stW_pass hA hS hN hK hP hD nwX_ok⟩ rfl rfl hl.1 rfl (lv_room (Nat.le_of_ble_eq_true rfl)) dX7_startAnew_6 ⟨Nat.le_of_ble_eq_true rfl, Nat.le_of_ble_eq_true rfl⟩) hS (fun σ1 H locs hq hP hD hS => ?_)
  refine lv_aload_n hx hb dX7_startAnew_9 rfl (lv_at hl 0 rfl) ?_
  refine va_get (D := D) (ci := 7) (v := .ref (ad 11)) (C := RX7) (T := TX7) (N := 7) hx hb hts hiX7 hown hK hP 0 wXg0 rfl 1 (by decide) (hts (.fieldLink RX7 21 "ArcGuesser" "measures" "LArcGuesser$Measures;") (List.mem_of_getElem? (i := 2) rfl)) (fun _ h9 => h9) rfl dX7_startAnew_10 ?_
  refine lv_iconst (v := (1 : Int32)) hx hb dX7_startAnew_13 (by decide) ?_
  refine lv_iconst (v := (1 : Int32)) hx hb dX7_startAnew_14 (by decide) ?_
  refine lv_iconst (v := (2 : Int32)) hx hb dX7_startAnew_15 (by decide) ?_
  refine w_callv (va_runVN (As := [.int (1 : Int32), .int (1 : Int32), .int (2 : Int32)]) (rest := []) ⟨hx, hb, hml, hown, hts⟩ (mtX4_setPaths l D ad cA A σ1 (1 : Int32) (1 : Int32) (2 : Int32) _ hq) ⟨va_cnB 3 hts ggX7_startAnew_X4_setPaths rfl rfl rfl (hN (.methodLinkNest RX7 122 yX4_setPaths "ArcGuesser") (List.mem_of_getElem? (i := 39) rfl)) (hts (.initialized RX4) (List.mem_of_getElem? (i := 33) rfl)) (by decide +kernel) ⟨Nat.le_of_ble_eq_true rfl, Nat.le_of_ble_eq_true rfl⟩, hts (.instanceMethod yX4_setPaths) (List.mem_of_getElem? (i := 32) rfl), hts (.selects RX4 yX4_setPaths yX4_setPaths) (List.mem_of_getElem? (i := 34) rfl)⟩ ⟨stW_blind nwX_ok, va_recv hK hP (ci := 4) (q0 := 11) rfl wXg11, stW_pass hA hS hN hK hP hD nwX_ok⟩ rfl rfl hl.1 rfl (lv_room (Nat.le_of_ble_eq_true rfl)) dX7_startAnew_16 ⟨Nat.le_of_ble_eq_true rfl, Nat.le_of_ble_eq_true rfl⟩) hS (fun σ2 H locs hq hP hD hS => ?_)
  refine lv_aload_n hx hb dX7_startAnew_19 rfl (lv_at hl 0 rfl) ?_
  refine va_get (D := D) (ci := 7) (v := .ref (ad 12)) (C := RX7) (T := TX7) (N := 7) hx hb hts hiX7 hown hK hP 0 wXg0 rfl 2 (by decide) (hts (.fieldLink RX7 30 "ArcGuesser" "mix" "LArcGuesser$Mix;") (List.mem_of_getElem? (i := 3) rfl)) (fun _ h9 => h9) rfl dX7_startAnew_20 ?_
  refine w_callv (va_runVN (As := []) (rest := []) ⟨hx, hb, hml, hown, hts⟩ (mtX5_reset l D ad cA A σ2  _ hq) ⟨va_cnB 0 hts ggX7_startAnew_X5_reset rfl rfl rfl (hN (.methodLinkNest RX7 219 yX5_reset "ArcGuesser") (List.mem_of_getElem? (i := 58) rfl)) (hts (.initialized RX5) (List.mem_of_getElem? (i := 40) rfl)) (by decide +kernel) ⟨Nat.le_of_ble_eq_true rfl, Nat.le_of_ble_eq_true rfl⟩, hts (.instanceMethod yX5_reset) (List.mem_of_getElem? (i := 39) rfl), hts (.selects RX5 yX5_reset yX5_reset) (List.mem_of_getElem? (i := 41) rfl)⟩ ⟨stW_blind nwX_ok, va_recv hK hP (ci := 5) (q0 := 12) rfl wXg12, stW_pass hA hS hN hK hP hD nwX_ok⟩ rfl rfl hl.1 rfl (lv_room (Nat.le_of_ble_eq_true rfl)) dX7_startAnew_23 ⟨Nat.le_of_ble_eq_true rfl, Nat.le_of_ble_eq_true rfl⟩) hS (fun σ3 H locs hq hP hD hS => ?_)
  refine lv_aload_n hx hb dX7_startAnew_26 rfl (lv_at hl 0 rfl) ?_
  refine va_get (D := D) (ci := 7) (v := .ref (ad 29)) (C := RX7) (T := TX7) (N := 7) hx hb hts hiX7 hown hK hP 0 wXg0 rfl 6 (by decide) (hts (.fieldLink RX7 58 "ArcGuesser" "board" "LArcGuesser$Board;") (List.mem_of_getElem? (i := 4) rfl)) (fun _ h9 => h9) rfl dX7_startAnew_27 ?_
  refine lv_lconst (v := (0 : Int64)) hx hb dX7_startAnew_30 (by decide) ?_
  refine lv_lconst (v := (1 : Int64)) hx hb dX7_startAnew_31 (by decide) ?_
  refine w_callv (va_runVN (As := [.long (0 : Int64), .long (1 : Int64)]) (rest := []) ⟨hx, hb, hml, hown, hts⟩ (mtX0_show l D ad cA A σ3 (0 : Int64) (1 : Int64) _ hq) ⟨va_cnB 2 hts ggX7_startAnew_X0_show rfl rfl rfl (hN (.methodLinkNest RX7 142 yX0_show "ArcGuesser") (List.mem_of_getElem? (i := 42) rfl)) (hts (.initialized RX0) (List.mem_of_getElem? (i := 46) rfl)) (by decide +kernel) ⟨Nat.le_of_ble_eq_true rfl, Nat.le_of_ble_eq_true rfl⟩, hts (.instanceMethod yX0_show) (List.mem_of_getElem? (i := 45) rfl), hts (.selects RX0 yX0_show yX0_show) (List.mem_of_getElem? (i := 47) rfl)⟩ ⟨stW_blind nwX_ok, va_recv hK hP (ci := 0) (q0 := 29) rfl wXg29, stW_pass hA hS hN hK hP hD nwX_ok⟩ rfl rfl hl.1 rfl (lv_room (Nat.le_of_ble_eq_true rfl)) dX7_startAnew_32 ⟨Nat.le_of_ble_eq_true rfl, Nat.le_of_ble_eq_true rfl⟩) hS (fun σ4 H locs hq hP hD hS => ?_)
  exact W.vret hx hb hr (fun t ht hW => ⟨⟨σ4, rfl, hq, by rw [ht]; exact hP, hD⟩, hS.F ht⟩) hS.2.2 dX7_startAnew_35
/-! ArcGuesser.graph(II)I -/
def X7_graph_wp (σ : Sto) (p1 : Int32) (p2 : Int32) (Post : Int32 → Sto → Prop) : Prop :=
  (X7_isWithin_wp σ p1 (2 : Int32) (12 : Int32) (fun r1 σ1 => ((r1 = 0 → (Post (-2 : Int32) σ1)) ∧ (¬ r1 = 0 → (X7_isWithin_wp σ1 p2 (0 : Int32) (2 : Int32) (fun r2 σ2 => ((¬ r2 = 0 → (X7_startAnew_wp σ2 p1 p2 (fun σ3 => (Post (σ3.1 1 2) σ3)))) ∧ (r2 = 0 → (Post (-2 : Int32) σ2)))))))))
set_option maxHeartbeats 4000000 in
set_option maxRecDepth 100000 in
theorem mtX7_graph (l : Launch) (D : va_G) (ad : Nat → Nat) (cA : Nat → ClassId) (A : Nat → Prop) (σ : Sto) (p1 : Int32) (p2 : Int32) (Post : Int32 → Sto → Prop) (hwp : X7_graph_wp σ p1 p2 Post) : Met l yX7_graph wsX7_graph ({ frames := 3, cells := 0, slots := 0, locals := 78 }) (va_Pc [.ref (ad 0), .int p1, .int p2] (stW D (tyX cA) nwX (wX ad cA) A σ)) (va_Qi Post (enW D (wX ad cA) A) A) 0 0 A := by
  refine Met.ofW (cc := cX7_graph) (maxL := 3) (ret := (some .int)) (by decide) rfl ?_
  intro p e s m args below meth c s₁ B hml hv
  obtain ⟨rfl, hA, hN, hP, hK, hD⟩ := hv
  have hx := B.exec
  have hb := B.bytes
  have hr := B.returns
  have hts := atoms_spec (ws := wsX7_graph) B.pre
  have hown : s.vm.findClass RX7 = some m.cls := findClass_of_methodNamed B.named
  have hlocks := B.notSynchronized
  have hiX6 : ∀ w ∈ wsX60, w ∈ wsX7_graph := by decide +kernel
  have hiX7 : ∀ w ∈ wsX70, w ∈ wsX7_graph := by decide +kernel
  have hS : va_S A s.heap s.heap [] := va_S.rf
  have hl := lv_entry ([.ref (ad 0), .int p1, .int p2]) (n := 3) (Nat.le_of_ble_eq_true rfl)
  rw [lg_entry_eq]
  generalize (lg_sl ([.ref (ad 0), .int p1, .int p2]) ++ List.replicate (3 - (lg_sl ([.ref (ad 0), .int p1, .int p2])).length) Slot.unset).toArray = ls at hl ⊢
  have hl : lv_has ls 3 [(0, .ref (ad 0)), (1, .int p1), (2, .int p2)] := hl
  have hq := hwp
  unfold X7_graph_wp at hq
  refine lv_iload_n hx hb dX7_graph_0 rfl (lv_at hl 1 rfl) ?_
  refine lv_iconst (v := (2 : Int32)) hx hb dX7_graph_1 (by decide) ?_
  refine lv_bipush (v := (12 : Int32)) hx hb dX7_graph_2 (by decide) ?_
  refine w_calli (va_runS (As := [.int p1, .int (2 : Int32), .int (12 : Int32)]) (rest := []) ⟨hx, hb, hml, hown, hts⟩ (mtX7_isWithin l D ad cA A σ p1 (2 : Int32) (12 : Int32) _ hq) (va_cwS 3 hts gX7_graph_X7_isWithin rfl rfl rfl (by decide +kernel) ⟨Nat.le_of_ble_eq_true rfl, Nat.le_of_ble_eq_true rfl⟩) ⟨stW_blind nwX_ok, stW_pass hA hS hN hK hP hD nwX_ok⟩ rfl rfl hl.1 rfl (lv_room (Nat.le_of_ble_eq_true rfl)) dX7_graph_4 ⟨Nat.le_of_ble_eq_true rfl, Nat.le_of_ble_eq_true rfl⟩) hS (fun r1 σ1 H locs hq hP hD hS => ?_)
  refine lv_if_eq (tgt := 19) hx hb dX7_graph_7 (by decide) (fun hc => ?_) (fun hc => ?_)
  · have hq := hq.1 hc
    refine lv_bipush (v := (-2 : Int32)) hx hb dX7_graph_19 (by decide) ?_
    exact W.iret (v := (-2 : Int32)) hx hb hr (fun t ht hW => ⟨⟨(-2 : Int32), σ1, rfl, hq, by rw [ht]; exact hP, hD⟩, hS.F ht⟩) hS.2.2 dX7_graph_21
  · have hq := hq.2 hc
    refine lv_iload_n hx hb dX7_graph_10 rfl (lv_at hl 2 rfl) ?_
    refine lv_iconst (v := (0 : Int32)) hx hb dX7_graph_11 (by decide) ?_
    refine lv_iconst (v := (2 : Int32)) hx hb dX7_graph_12 (by decide) ?_
    refine w_calli (va_runS (As := [.int p2, .int (0 : Int32), .int (2 : Int32)]) (rest := []) ⟨hx, hb, hml, hown, hts⟩ (mtX7_isWithin l D ad cA A σ1 p2 (0 : Int32) (2 : Int32) _ hq) (va_cwS 3 hts gX7_graph_X7_isWithin rfl rfl rfl (by decide +kernel) ⟨Nat.le_of_ble_eq_true rfl, Nat.le_of_ble_eq_true rfl⟩) ⟨stW_blind nwX_ok, stW_pass hA hS hN hK hP hD nwX_ok⟩ rfl rfl hl.1 rfl (lv_room (Nat.le_of_ble_eq_true rfl)) dX7_graph_13 ⟨Nat.le_of_ble_eq_true rfl, Nat.le_of_ble_eq_true rfl⟩) hS (fun r2 σ2 H locs hq hP hD hS => ?_)
    refine lv_if_ne (tgt := 22) hx hb dX7_graph_16 (by decide) (fun hc => ?_) (fun hc => ?_)
    · have hq := hq.1 hc
      refine lv_aload_n hx hb dX7_graph_22 rfl (lv_at hl 0 rfl) ?_
      refine lv_iload_n hx hb dX7_graph_23 rfl (lv_at hl 1 rfl) ?_
      refine lv_iload_n hx hb dX7_graph_24 rfl (lv_at hl 2 rfl) ?_
      refine w_callv (va_runV (As := [.int p1, .int p2]) (rest := []) ⟨hx, hb, hml, hown, hts⟩ (mtX7_startAnew l D ad cA A σ2 p1 p2 _ hq) (cwV 2 hts gX7_graph_X7_startAnew rfl rfl rfl (by decide +kernel) ⟨Nat.le_of_ble_eq_true rfl, Nat.le_of_ble_eq_true rfl⟩) ⟨stW_blind nwX_ok, va_recv hK hP (ci := 7) (q0 := 0) rfl wXg0, stW_pass hA hS hN hK hP hD nwX_ok⟩ rfl rfl hl.1 rfl (lv_room (Nat.le_of_ble_eq_true rfl)) dX7_graph_25 ⟨Nat.le_of_ble_eq_true rfl, Nat.le_of_ble_eq_true rfl⟩) hS (fun σ3 H locs hq hP hD hS => ?_)
      refine lv_aload_n hx hb dX7_graph_28 rfl (lv_at hl 0 rfl) ?_
      refine va_get (D := D) (ci := 7) (v := .ref (ad 1)) (C := RX7) (T := TX7) (N := 7) hx hb hts hiX7 hown hK hP 0 wXg0 rfl 0 (by decide) (hts (.fieldLink RX7 12 "ArcGuesser" "net" "LArcGuesser$Net;") (List.mem_of_getElem? (i := 1) rfl)) (fun _ h9 => h9) rfl dX7_graph_29 ?_
      refine va_getN (D := D) (ci := 6) (v := .int (σ3.1 1 2)) (C := RX6) (T := TX6) (N := 13) hx hb hts hiX6 hown hK hP 1 wXg1 rfl 2 (by decide) (va_Nw.use rfl (hN (.fieldLinkNest RX7 70 "ArcGuesser$Net" "pairTotal" "I" "ArcGuesser") (List.mem_of_getElem? (i := 0) rfl))) (fun _ h9 => h9) rfl dX7_graph_32 ?_
      exact W.iret (v := (σ3.1 1 2)) hx hb hr (fun t ht hW => ⟨⟨(σ3.1 1 2), σ3, rfl, hq, by rw [ht]; exact hP, hD⟩, hS.F ht⟩) hS.2.2 dX7_graph_35
    · have hq := hq.2 hc
      refine lv_bipush (v := (-2 : Int32)) hx hb dX7_graph_19 (by decide) ?_
      exact W.iret (v := (-2 : Int32)) hx hb hr (fun t ht hW => ⟨⟨(-2 : Int32), σ2, rfl, hq, by rw [ht]; exact hP, hD⟩, hS.F ht⟩) hS.2.2 dX7_graph_21
/-! ArcGuesser.group(II)I -/
def X7_group_wp (σ : Sto) (p1 : Int32) (p2 : Int32) (Post : Int32 → Sto → Prop) : Prop :=
  (X6_isNode_wp σ p1 (fun r1 σ1 => ((¬ r1 = 0 → (X7_isWithin_wp σ1 p2 (0 : Int32) (3 : Int32) (fun r2 σ2 => ((¬ r2 = 0 → (vp_in p1 12 ∧ (vp_in p1 12 ∧ (Post (σ2.1 8 (p1).toNatClampNeg) (sI σ2 8 (p1).toNatClampNeg p2))))) ∧ (r2 = 0 → (Post (-2 : Int32) σ2)))))) ∧ (r1 = 0 → (Post (-1 : Int32) σ1)))))
set_option maxHeartbeats 4000000 in
set_option maxRecDepth 100000 in
theorem mtX7_group (l : Launch) (D : va_G) (ad : Nat → Nat) (cA : Nat → ClassId) (A : Nat → Prop) (σ : Sto) (p1 : Int32) (p2 : Int32) (Post : Int32 → Sto → Prop) (hwp : X7_group_wp σ p1 p2 Post) : Met l yX7_group wsX7_group ({ frames := 1, cells := 0, slots := 0, locals := 22 }) (va_Pc [.ref (ad 0), .int p1, .int p2] (stW D (tyX cA) nwX (wX ad cA) A σ)) (va_Qi Post (enW D (wX ad cA) A) A) 0 0 A := by
  refine Met.ofW (cc := cX7_group) (maxL := 4) (ret := (some .int)) (by decide) rfl ?_
  intro p e s m args below meth c s₁ B hml hv
  obtain ⟨rfl, hA, hN, hP, hK, hD⟩ := hv
  have hx := B.exec
  have hb := B.bytes
  have hr := B.returns
  have hts := atoms_spec (ws := wsX7_group) B.pre
  have hown : s.vm.findClass RX7 = some m.cls := findClass_of_methodNamed B.named
  have hlocks := B.notSynchronized
  have hiX6 : ∀ w ∈ wsX60, w ∈ wsX7_group := by decide +kernel
  have hiX7 : ∀ w ∈ wsX70, w ∈ wsX7_group := by decide +kernel
  have hS : va_S A s.heap s.heap [] := va_S.rf
  have hl := lv_entry ([.ref (ad 0), .int p1, .int p2]) (n := 4) (Nat.le_of_ble_eq_true rfl)
  rw [lg_entry_eq]
  generalize (lg_sl ([.ref (ad 0), .int p1, .int p2]) ++ List.replicate (4 - (lg_sl ([.ref (ad 0), .int p1, .int p2])).length) Slot.unset).toArray = ls at hl ⊢
  have hl : lv_has ls 4 [(0, .ref (ad 0)), (1, .int p1), (2, .int p2)] := hl
  have hq := hwp
  unfold X7_group_wp at hq
  refine lv_aload_n hx hb dX7_group_0 rfl (lv_at hl 0 rfl) ?_
  refine va_get (D := D) (ci := 7) (v := .ref (ad 1)) (C := RX7) (T := TX7) (N := 7) hx hb hts hiX7 hown hK hP 0 wXg0 rfl 0 (by decide) (hts (.fieldLink RX7 12 "ArcGuesser" "net" "LArcGuesser$Net;") (List.mem_of_getElem? (i := 1) rfl)) (fun _ h9 => h9) rfl dX7_group_1 ?_
  refine lv_iload_n hx hb dX7_group_4 rfl (lv_at hl 1 rfl) ?_
  refine w_calli (va_runVN (As := [.int p1]) (rest := []) ⟨hx, hb, hml, hown, hts⟩ (mtX6_isNode l D ad cA A σ p1 _ hq) ⟨va_cnB 1 hts ggX7_group_X6_isNode rfl rfl rfl (hN (.methodLinkNest RX7 88 yX6_isNode "ArcGuesser") (List.mem_of_getElem? (i := 33) rfl)) (hts (.initialized RX6) (List.mem_of_getElem? (i := 3) rfl)) (by decide +kernel) ⟨Nat.le_of_ble_eq_true rfl, Nat.le_of_ble_eq_true rfl⟩, hts (.instanceMethod yX6_isNode) (List.mem_of_getElem? (i := 2) rfl), hts (.selects RX6 yX6_isNode yX6_isNode) (List.mem_of_getElem? (i := 4) rfl)⟩ ⟨stW_blind nwX_ok, va_recv hK hP (ci := 6) (q0 := 1) rfl wXg1, stW_pass hA hS hN hK hP hD nwX_ok⟩ rfl rfl hl.1 rfl (lv_room (Nat.le_of_ble_eq_true rfl)) dX7_group_5 ⟨Nat.le_of_ble_eq_true rfl, Nat.le_of_ble_eq_true rfl⟩) hS (fun r1 σ1 H locs hq hP hD hS => ?_)
  refine lv_if_ne (tgt := 13) hx hb dX7_group_8 (by decide) (fun hc => ?_) (fun hc => ?_)
  · have hq := hq.1 hc
    refine lv_iload_n hx hb dX7_group_13 rfl (lv_at hl 2 rfl) ?_
    refine lv_iconst (v := (0 : Int32)) hx hb dX7_group_14 (by decide) ?_
    refine lv_iconst (v := (3 : Int32)) hx hb dX7_group_15 (by decide) ?_
    refine w_calli (va_runS (As := [.int p2, .int (0 : Int32), .int (3 : Int32)]) (rest := []) ⟨hx, hb, hml, hown, hts⟩ (mtX7_isWithin l D ad cA A σ1 p2 (0 : Int32) (3 : Int32) _ hq) (va_cwS 3 hts gX7_group_X7_isWithin rfl rfl rfl (by decide +kernel) ⟨Nat.le_of_ble_eq_true rfl, Nat.le_of_ble_eq_true rfl⟩) ⟨stW_blind nwX_ok, stW_pass hA hS hN hK hP hD nwX_ok⟩ rfl rfl hl.1 rfl (lv_room (Nat.le_of_ble_eq_true rfl)) dX7_group_16 ⟨Nat.le_of_ble_eq_true rfl, Nat.le_of_ble_eq_true rfl⟩) hS (fun r2 σ2 H locs hq hP hD hS => ?_)
    refine lv_if_ne (tgt := 25) hx hb dX7_group_19 (by decide) (fun hc => ?_) (fun hc => ?_)
    · have hq := hq.1 hc
      refine lv_aload_n hx hb dX7_group_25 rfl (lv_at hl 0 rfl) ?_
      refine va_get (D := D) (ci := 7) (v := .ref (ad 1)) (C := RX7) (T := TX7) (N := 7) hx hb hts hiX7 hown hK hP 0 wXg0 rfl 0 (by decide) (hts (.fieldLink RX7 12 "ArcGuesser" "net" "LArcGuesser$Net;") (List.mem_of_getElem? (i := 1) rfl)) (fun _ h9 => h9) rfl dX7_group_26 ?_
      refine va_getN (D := D) (ci := 6) (v := .ref (ad 8)) (C := RX6) (T := TX6) (N := 13) hx hb hts hiX6 hown hK hP 1 wXg1 rfl 10 (by decide) (va_Nw.use rfl (hN (.fieldLinkNest RX7 92 "ArcGuesser$Net" "groups" "[I" "ArcGuesser") (List.mem_of_getElem? (i := 3) rfl))) (fun _ h9 => h9) rfl dX7_group_29 ?_
      refine lv_iload_n hx hb dX7_group_32 rfl (lv_at hl 1 rfl) ?_
      refine va_iald hx hb hK hP 8 0 wXg8 rfl hq.1 dX7_group_33 ?_
      have hq := hq.2
      refine lv_istore_n (lv' := [(3, .int (σ2.1 8 (p1).toNatClampNeg)), (0, .ref (ad 0)), (1, .int p1), (2, .int p2)]) hx hb dX7_group_34 rfl hl (by decide) rfl (fun ls hl => ?_)
      refine lv_aload_n hx hb dX7_group_35 rfl (lv_at hl 1 rfl) ?_
      refine va_get (D := D) (ci := 7) (v := .ref (ad 1)) (C := RX7) (T := TX7) (N := 7) hx hb hts hiX7 hown hK hP 0 wXg0 rfl 0 (by decide) (hts (.fieldLink RX7 12 "ArcGuesser" "net" "LArcGuesser$Net;") (List.mem_of_getElem? (i := 1) rfl)) (fun _ h9 => h9) rfl dX7_group_36 ?_
      refine va_getN (D := D) (ci := 6) (v := .ref (ad 8)) (C := RX6) (T := TX6) (N := 13) hx hb hts hiX6 hown hK hP 1 wXg1 rfl 10 (by decide) (va_Nw.use rfl (hN (.fieldLinkNest RX7 92 "ArcGuesser$Net" "groups" "[I" "ArcGuesser") (List.mem_of_getElem? (i := 3) rfl))) (fun _ h9 => h9) rfl dX7_group_39 ?_
      refine lv_iload_n hx hb dX7_group_42 rfl (lv_at hl 2 rfl) ?_
      refine lv_iload_n hx hb dX7_group_43 rfl (lv_at hl 3 rfl) ?_
      refine va_iast hx hb hK hP hD hS 8 0 wXg8 rfl hq.1 dX7_group_44 (fun H locs hP hD hS => ?_)
      have hP := wXsP8 hP
      have hD := wXsD8 hD
      have hq := hq.2
      refine lv_iload_n hx hb dX7_group_45 rfl (lv_at hl 0 rfl) ?_
      exact W.iret (v := (σ2.1 8 (p1).toNatClampNeg)) hx hb hr (fun t ht hW => ⟨⟨(σ2.1 8 (p1).toNatClampNeg), (sI σ2 8 (p1).toNatClampNeg p2), rfl, hq, by rw [ht]; exact hP, hD⟩, hS.F ht⟩) hS.2.2 dX7_group_46
    · have hq := hq.2 hc
      refine lv_bipush (v := (-2 : Int32)) hx hb dX7_group_22 (by decide) ?_
      exact W.iret (v := (-2 : Int32)) hx hb hr (fun t ht hW => ⟨⟨(-2 : Int32), σ2, rfl, hq, by rw [ht]; exact hP, hD⟩, hS.F ht⟩) hS.2.2 dX7_group_24
  · have hq := hq.2 hc
    refine lv_iconst (v := (-1 : Int32)) hx hb dX7_group_11 (by decide) ?_
    exact W.iret (v := (-1 : Int32)) hx hb hr (fun t ht hW => ⟨⟨(-1 : Int32), σ1, rfl, hq, by rw [ht]; exact hP, hD⟩, hS.F ht⟩) hS.2.2 dX7_group_12
/-! ArcGuesser.hide(IIZ)I -/
def X7_hide_wp (σ : Sto) (p1 : Int32) (p2 : Int32) (p3 : Int32) (Post : Int32 → Sto → Prop) : Prop :=
  (X6_pairFor_wp σ p1 p2 (fun r1 σ1 => ((r1 = (-1 : Int32) → (Post (-1 : Int32) σ1)) ∧ (¬ r1 = (-1 : Int32) → (vp_in r1 132 ∧ ((¬ (σ1.1 4 (r1).toNatClampNeg) = 0 → (vp_in r1 132 ∧ ((¬ (σ1.1 4 (r1).toNatClampNeg) = (2 : Int32) → (X6_setHidden_wp σ1 r1 p3 (fun σ2 => (Post (0 : Int32) σ2)))) ∧ ((σ1.1 4 (r1).toNatClampNeg) = (2 : Int32) → (X6_setHidden_wp σ1 r1 p3 (fun σ3 => (Post (1 : Int32) σ3))))))) ∧ ((σ1.1 4 (r1).toNatClampNeg) = 0 → (Post (-1 : Int32) σ1))))))))
set_option maxHeartbeats 4000000 in
set_option maxRecDepth 100000 in
theorem mtX7_hide (l : Launch) (D : va_G) (ad : Nat → Nat) (cA : Nat → ClassId) (A : Nat → Prop) (σ : Sto) (p1 : Int32) (p2 : Int32) (p3 : Int32) (Post : Int32 → Sto → Prop) (hwp : X7_hide_wp σ p1 p2 p3 Post) : Met l yX7_hide wsX7_hide ({ frames := 2, cells := 0, slots := 0, locals := 47 }) (va_Pc [.ref (ad 0), .int p1, .int p2, .int p3] (stW D (tyX cA) nwX (wX ad cA) A σ)) (va_Qi Post (enW D (wX ad cA) A) A) 0 0 A := by
  refine Met.ofW (cc := cX7_hide) (maxL := 6) (ret := (some .int)) (by decide) rfl ?_
  intro p e s m args below meth c s₁ B hml hv
  obtain ⟨rfl, hA, hN, hP, hK, hD⟩ := hv
  have hx := B.exec
  have hb := B.bytes
  have hr := B.returns
  have hts := atoms_spec (ws := wsX7_hide) B.pre
  have hown : s.vm.findClass RX7 = some m.cls := findClass_of_methodNamed B.named
  have hlocks := B.notSynchronized
  have hiX6 : ∀ w ∈ wsX60, w ∈ wsX7_hide := by decide +kernel
  have hiX7 : ∀ w ∈ wsX70, w ∈ wsX7_hide := by decide +kernel
  have hS : va_S A s.heap s.heap [] := va_S.rf
  have hl := lv_entry ([.ref (ad 0), .int p1, .int p2, .int p3]) (n := 6) (Nat.le_of_ble_eq_true rfl)
  rw [lg_entry_eq]
  generalize (lg_sl ([.ref (ad 0), .int p1, .int p2, .int p3]) ++ List.replicate (6 - (lg_sl ([.ref (ad 0), .int p1, .int p2, .int p3])).length) Slot.unset).toArray = ls at hl ⊢
  have hl : lv_has ls 6 [(0, .ref (ad 0)), (1, .int p1), (2, .int p2), (3, .int p3)] := hl
  have hq := hwp
  unfold X7_hide_wp at hq
  refine lv_aload_n hx hb dX7_hide_0 rfl (lv_at hl 0 rfl) ?_
  refine va_get (D := D) (ci := 7) (v := .ref (ad 1)) (C := RX7) (T := TX7) (N := 7) hx hb hts hiX7 hown hK hP 0 wXg0 rfl 0 (by decide) (hts (.fieldLink RX7 12 "ArcGuesser" "net" "LArcGuesser$Net;") (List.mem_of_getElem? (i := 1) rfl)) (fun _ h9 => h9) rfl dX7_hide_1 ?_
  refine lv_iload_n hx hb dX7_hide_4 rfl (lv_at hl 1 rfl) ?_
  refine lv_iload_n hx hb dX7_hide_5 rfl (lv_at hl 2 rfl) ?_
  refine w_calli (va_runVN (As := [.int p1, .int p2]) (rest := []) ⟨hx, hb, hml, hown, hts⟩ (mtX6_pairFor l D ad cA A σ p1 p2 _ hq) ⟨va_cnB 2 hts ggX7_hide_X6_pairFor rfl rfl rfl (hN (.methodLinkNest RX7 74 yX6_pairFor "ArcGuesser") (List.mem_of_getElem? (i := 31) rfl)) (hts (.initialized RX6) (List.mem_of_getElem? (i := 3) rfl)) (by decide +kernel) ⟨Nat.le_of_ble_eq_true rfl, Nat.le_of_ble_eq_true rfl⟩, hts (.instanceMethod yX6_pairFor) (List.mem_of_getElem? (i := 2) rfl), hts (.selects RX6 yX6_pairFor yX6_pairFor) (List.mem_of_getElem? (i := 4) rfl)⟩ ⟨stW_blind nwX_ok, va_recv hK hP (ci := 6) (q0 := 1) rfl wXg1, stW_pass hA hS hN hK hP hD nwX_ok⟩ rfl rfl hl.1 rfl (lv_room (Nat.le_of_ble_eq_true rfl)) dX7_hide_6 ⟨Nat.le_of_ble_eq_true rfl, Nat.le_of_ble_eq_true rfl⟩) hS (fun r1 σ1 H locs hq hP hD hS => ?_)
  refine lv_istore (lv' := [(4, .int r1), (0, .ref (ad 0)), (1, .int p1), (2, .int p2), (3, .int p3)]) hx hb dX7_hide_9 hl (by decide) rfl (fun ls hl => ?_)
  refine lv_iload hx hb dX7_hide_11 (lv_at hl 0 rfl) ?_
  refine lv_iconst (v := (-1 : Int32)) hx hb dX7_hide_13 (by decide) ?_
  refine lv_icmp_eq (tgt := 30) hx hb dX7_hide_14 (by decide) (fun hc => ?_) (fun hc => ?_)
  · have hq := hq.1 hc
    refine lv_iconst (v := (-1 : Int32)) hx hb dX7_hide_30 (by decide) ?_
    exact W.iret (v := (-1 : Int32)) hx hb hr (fun t ht hW => ⟨⟨(-1 : Int32), σ1, rfl, hq, by rw [ht]; exact hP, hD⟩, hS.F ht⟩) hS.2.2 dX7_hide_31
  · have hq := hq.2 hc
    refine lv_aload_n hx hb dX7_hide_17 rfl (lv_at hl 1 rfl) ?_
    refine va_get (D := D) (ci := 7) (v := .ref (ad 1)) (C := RX7) (T := TX7) (N := 7) hx hb hts hiX7 hown hK hP 0 wXg0 rfl 0 (by decide) (hts (.fieldLink RX7 12 "ArcGuesser" "net" "LArcGuesser$Net;") (List.mem_of_getElem? (i := 1) rfl)) (fun _ h9 => h9) rfl dX7_hide_18 ?_
    refine va_getN (D := D) (ci := 6) (v := .ref (ad 4)) (C := RX6) (T := TX6) (N := 13) hx hb hts hiX6 hown hK hP 1 wXg1 rfl 6 (by decide) (va_Nw.use rfl (hN (.fieldLinkNest RX7 78 "ArcGuesser$Net" "states" "[I" "ArcGuesser") (List.mem_of_getElem? (i := 1) rfl))) (fun _ h9 => h9) rfl dX7_hide_21 ?_
    refine lv_iload hx hb dX7_hide_24 (lv_at hl 0 rfl) ?_
    refine va_iald hx hb hK hP 4 0 wXg4 rfl hq.1 dX7_hide_26 ?_
    have hq := hq.2
    refine lv_if_ne (tgt := 32) hx hb dX7_hide_27 (by decide) (fun hc => ?_) (fun hc => ?_)
    · have hq := hq.1 hc
      refine lv_aload_n hx hb dX7_hide_32 rfl (lv_at hl 1 rfl) ?_
      refine va_get (D := D) (ci := 7) (v := .ref (ad 1)) (C := RX7) (T := TX7) (N := 7) hx hb hts hiX7 hown hK hP 0 wXg0 rfl 0 (by decide) (hts (.fieldLink RX7 12 "ArcGuesser" "net" "LArcGuesser$Net;") (List.mem_of_getElem? (i := 1) rfl)) (fun _ h9 => h9) rfl dX7_hide_33 ?_
      refine va_getN (D := D) (ci := 6) (v := .ref (ad 4)) (C := RX6) (T := TX6) (N := 13) hx hb hts hiX6 hown hK hP 1 wXg1 rfl 6 (by decide) (va_Nw.use rfl (hN (.fieldLinkNest RX7 78 "ArcGuesser$Net" "states" "[I" "ArcGuesser") (List.mem_of_getElem? (i := 1) rfl))) (fun _ h9 => h9) rfl dX7_hide_36 ?_
      refine lv_iload hx hb dX7_hide_39 (lv_at hl 0 rfl) ?_
      refine va_iald hx hb hK hP 4 0 wXg4 rfl hq.1 dX7_hide_41 ?_
      have hq := hq.2
      refine lv_iconst (v := (2 : Int32)) hx hb dX7_hide_42 (by decide) ?_
      refine lv_icmp_ne (tgt := 50) hx hb dX7_hide_43 (by decide) (fun hc => ?_) (fun hc => ?_)
      · have hq := hq.1 hc
        refine lv_iconst (v := (0 : Int32)) hx hb dX7_hide_50 (by decide) ?_
        refine lv_istore (lv' := [(5, .int (0 : Int32)), (4, .int r1), (0, .ref (ad 0)), (1, .int p1), (2, .int p2), (3, .int p3)]) hx hb dX7_hide_51 hl (by decide) rfl (fun ls hl => ?_)
        refine lv_aload_n hx hb dX7_hide_53 rfl (lv_at hl 2 rfl) ?_
        refine va_get (D := D) (ci := 7) (v := .ref (ad 1)) (C := RX7) (T := TX7) (N := 7) hx hb hts hiX7 hown hK hP 0 wXg0 rfl 0 (by decide) (hts (.fieldLink RX7 12 "ArcGuesser" "net" "LArcGuesser$Net;") (List.mem_of_getElem? (i := 1) rfl)) (fun _ h9 => h9) rfl dX7_hide_54 ?_
        refine lv_iload hx hb dX7_hide_57 (lv_at hl 1 rfl) ?_
        refine lv_iload_n hx hb dX7_hide_59 rfl (lv_at hl 5 rfl) ?_
        refine w_callv (va_runVN (As := [.int r1, .int p3]) (rest := []) ⟨hx, hb, hml, hown, hts⟩ (mtX6_setHidden l D ad cA A σ1 r1 p3 _ hq) ⟨va_cnB 2 hts ggX7_hide_X6_setHidden rfl rfl rfl (hN (.methodLinkNest RX7 95 yX6_setHidden "ArcGuesser") (List.mem_of_getElem? (i := 34) rfl)) (hts (.initialized RX6) (List.mem_of_getElem? (i := 3) rfl)) (by decide +kernel) ⟨Nat.le_of_ble_eq_true rfl, Nat.le_of_ble_eq_true rfl⟩, hts (.instanceMethod yX6_setHidden) (List.mem_of_getElem? (i := 12) rfl), hts (.selects RX6 yX6_setHidden yX6_setHidden) (List.mem_of_getElem? (i := 13) rfl)⟩ ⟨stW_blind nwX_ok, va_recv hK hP (ci := 6) (q0 := 1) rfl wXg1, stW_pass hA hS hN hK hP hD nwX_ok⟩ rfl rfl hl.1 rfl (lv_room (Nat.le_of_ble_eq_true rfl)) dX7_hide_60 ⟨Nat.le_of_ble_eq_true rfl, Nat.le_of_ble_eq_true rfl⟩) hS (fun σ2 H locs hq hP hD hS => ?_)
        refine lv_iload hx hb dX7_hide_63 (lv_at hl 0 rfl) ?_
        exact W.iret (v := (0 : Int32)) hx hb hr (fun t ht hW => ⟨⟨(0 : Int32), σ2, rfl, hq, by rw [ht]; exact hP, hD⟩, hS.F ht⟩) hS.2.2 dX7_hide_65
      · have hq := hq.2 hc
        refine lv_iconst (v := (1 : Int32)) hx hb dX7_hide_46 (by decide) ?_
        refine lv_goto (tgt := 51) hx hb dX7_hide_47 (by decide) ?_
        refine lv_istore (lv' := [(5, .int (1 : Int32)), (4, .int r1), (0, .ref (ad 0)), (1, .int p1), (2, .int p2), (3, .int p3)]) hx hb dX7_hide_51 hl (by decide) rfl (fun ls hl => ?_)
        refine lv_aload_n hx hb dX7_hide_53 rfl (lv_at hl 2 rfl) ?_
        refine va_get (D := D) (ci := 7) (v := .ref (ad 1)) (C := RX7) (T := TX7) (N := 7) hx hb hts hiX7 hown hK hP 0 wXg0 rfl 0 (by decide) (hts (.fieldLink RX7 12 "ArcGuesser" "net" "LArcGuesser$Net;") (List.mem_of_getElem? (i := 1) rfl)) (fun _ h9 => h9) rfl dX7_hide_54 ?_
        refine lv_iload hx hb dX7_hide_57 (lv_at hl 1 rfl) ?_
        refine lv_iload_n hx hb dX7_hide_59 rfl (lv_at hl 5 rfl) ?_
        refine w_callv (va_runVN (As := [.int r1, .int p3]) (rest := []) ⟨hx, hb, hml, hown, hts⟩ (mtX6_setHidden l D ad cA A σ1 r1 p3 _ hq) ⟨va_cnB 2 hts ggX7_hide_X6_setHidden rfl rfl rfl (hN (.methodLinkNest RX7 95 yX6_setHidden "ArcGuesser") (List.mem_of_getElem? (i := 34) rfl)) (hts (.initialized RX6) (List.mem_of_getElem? (i := 3) rfl)) (by decide +kernel) ⟨Nat.le_of_ble_eq_true rfl, Nat.le_of_ble_eq_true rfl⟩, hts (.instanceMethod yX6_setHidden) (List.mem_of_getElem? (i := 12) rfl), hts (.selects RX6 yX6_setHidden yX6_setHidden) (List.mem_of_getElem? (i := 13) rfl)⟩ ⟨stW_blind nwX_ok, va_recv hK hP (ci := 6) (q0 := 1) rfl wXg1, stW_pass hA hS hN hK hP hD nwX_ok⟩ rfl rfl hl.1 rfl (lv_room (Nat.le_of_ble_eq_true rfl)) dX7_hide_60 ⟨Nat.le_of_ble_eq_true rfl, Nat.le_of_ble_eq_true rfl⟩) hS (fun σ3 H locs hq hP hD hS => ?_)
        refine lv_iload hx hb dX7_hide_63 (lv_at hl 0 rfl) ?_
        exact W.iret (v := (1 : Int32)) hx hb hr (fun t ht hW => ⟨⟨(1 : Int32), σ3, rfl, hq, by rw [ht]; exact hP, hD⟩, hS.F ht⟩) hS.2.2 dX7_hide_65
    · have hq := hq.2 hc
      refine lv_iconst (v := (-1 : Int32)) hx hb dX7_hide_30 (by decide) ?_
      exact W.iret (v := (-1 : Int32)) hx hb hr (fun t ht hW => ⟨⟨(-1 : Int32), σ1, rfl, hq, by rw [ht]; exact hP, hD⟩, hS.F ht⟩) hS.2.2 dX7_hide_31
/-! ArcGuesser.learn(II)I -/
def X7_learn_wp (σ : Sto) (p1 : Int32) (p2 : Int32) (Post : Int32 → Sto → Prop) : Prop :=
  (X3_canLearn_wp σ p1 (fun r1 σ1 => ((r1 = 0 → (Post (-2 : Int32) σ1)) ∧ (¬ r1 = 0 → (X7_isWithin_wp σ1 p2 (1 : Int32) (3 : Int32) (fun r2 σ2 => ((¬ r2 = 0 → (X1_gather_wp σ2  (fun σ3 => (X1_canBeJudged_wp σ3  (fun r4 σ4 => ((¬ r4 = 0 → (X3_choose_wp σ4 p1 (fun σ5 => (X3_measureAll_wp σ5  (fun σ6 => (X3_findBest_wp σ6 p2 (fun r7 σ7 => (X3_handOver_wp σ7  (fun σ8 => (X1_halvesInAll_wp σ8  (fun r9 σ9 => (X0_show_wp σ9 (r7).toInt64 (r9).toInt64 (fun σ10 => (Post (1 : Int32) σ10)))))))))))))) ∧ (r4 = 0 → (Post (-3 : Int32) σ4)))))))) ∧ (r2 = 0 → (Post (-2 : Int32) σ2)))))))))
set_option maxHeartbeats 4000000 in
set_option maxRecDepth 100000 in
theorem mtX7_learn (l : Launch) (D : va_G) (ad : Nat → Nat) (cA : Nat → ClassId) (A : Nat → Prop) (σ : Sto) (p1 : Int32) (p2 : Int32) (Post : Int32 → Sto → Prop) (hwp : X7_learn_wp σ p1 p2 Post) : Met l yX7_learn wsX7_learn ({ frames := 5, cells := 0, slots := 0, locals := 116 }) (va_Pc [.ref (ad 0), .int p1, .int p2] (stW D (tyX cA) nwX (wX ad cA) A σ)) (va_Qi Post (enW D (wX ad cA) A) A) 0 0 A := by
  refine Met.ofW (cc := cX7_learn) (maxL := 4) (ret := (some .int)) (by decide) rfl ?_
  intro p e s m args below meth c s₁ B hml hv
  obtain ⟨rfl, hA, hN, hP, hK, hD⟩ := hv
  have hx := B.exec
  have hb := B.bytes
  have hr := B.returns
  have hts := atoms_spec (ws := wsX7_learn) B.pre
  have hown : s.vm.findClass RX7 = some m.cls := findClass_of_methodNamed B.named
  have hlocks := B.notSynchronized
  have hiX5 : ∀ w ∈ wsX50, w ∈ wsX7_learn := by decide +kernel
  have hiX7 : ∀ w ∈ wsX70, w ∈ wsX7_learn := by decide +kernel
  have hS : va_S A s.heap s.heap [] := va_S.rf
  have hl := lv_entry ([.ref (ad 0), .int p1, .int p2]) (n := 4) (Nat.le_of_ble_eq_true rfl)
  rw [lg_entry_eq]
  generalize (lg_sl ([.ref (ad 0), .int p1, .int p2]) ++ List.replicate (4 - (lg_sl ([.ref (ad 0), .int p1, .int p2])).length) Slot.unset).toArray = ls at hl ⊢
  have hl : lv_has ls 4 [(0, .ref (ad 0)), (1, .int p1), (2, .int p2)] := hl
  have hq := hwp
  unfold X7_learn_wp at hq
  refine lv_iload_n hx hb dX7_learn_0 rfl (lv_at hl 1 rfl) ?_
  refine w_calli (va_runSN (As := [.int p1]) (rest := []) ⟨hx, hb, hml, hown, hts⟩ (mtX3_canLearn l D ad cA A σ p1 _ hq) ⟨va_cnB 1 hts ggX7_learn_X3_canLearn rfl rfl rfl (hN (.methodLinkNest RX7 198 yX3_canLearn "ArcGuesser") (List.mem_of_getElem? (i := 52) rfl)) (hts (.initialized RX3) (List.mem_of_getElem? (i := 7) rfl)) (by decide +kernel) ⟨Nat.le_of_ble_eq_true rfl, Nat.le_of_ble_eq_true rfl⟩, hts (.static yX3_canLearn) (List.mem_of_getElem? (i := 6) rfl), trivial⟩ ⟨stW_blind nwX_ok, stW_pass hA hS hN hK hP hD nwX_ok⟩ rfl rfl hl.1 rfl (lv_room (Nat.le_of_ble_eq_true rfl)) dX7_learn_1 ⟨Nat.le_of_ble_eq_true rfl, Nat.le_of_ble_eq_true rfl⟩) hS (fun r1 σ1 H locs hq hP hD hS => ?_)
  refine lv_if_eq (tgt := 16) hx hb dX7_learn_4 (by decide) (fun hc => ?_) (fun hc => ?_)
  · have hq := hq.1 hc
    refine lv_bipush (v := (-2 : Int32)) hx hb dX7_learn_16 (by decide) ?_
    exact W.iret (v := (-2 : Int32)) hx hb hr (fun t ht hW => ⟨⟨(-2 : Int32), σ1, rfl, hq, by rw [ht]; exact hP, hD⟩, hS.F ht⟩) hS.2.2 dX7_learn_18
  · have hq := hq.2 hc
    refine lv_iload_n hx hb dX7_learn_7 rfl (lv_at hl 2 rfl) ?_
    refine lv_iconst (v := (1 : Int32)) hx hb dX7_learn_8 (by decide) ?_
    refine lv_iconst (v := (3 : Int32)) hx hb dX7_learn_9 (by decide) ?_
    refine w_calli (va_runS (As := [.int p2, .int (1 : Int32), .int (3 : Int32)]) (rest := []) ⟨hx, hb, hml, hown, hts⟩ (mtX7_isWithin l D ad cA A σ1 p2 (1 : Int32) (3 : Int32) _ hq) (va_cwS 3 hts gX7_learn_X7_isWithin rfl rfl rfl (by decide +kernel) ⟨Nat.le_of_ble_eq_true rfl, Nat.le_of_ble_eq_true rfl⟩) ⟨stW_blind nwX_ok, stW_pass hA hS hN hK hP hD nwX_ok⟩ rfl rfl hl.1 rfl (lv_room (Nat.le_of_ble_eq_true rfl)) dX7_learn_10 ⟨Nat.le_of_ble_eq_true rfl, Nat.le_of_ble_eq_true rfl⟩) hS (fun r2 σ2 H locs hq hP hD hS => ?_)
    refine lv_if_ne (tgt := 19) hx hb dX7_learn_13 (by decide) (fun hc => ?_) (fun hc => ?_)
    · have hq := hq.1 hc
      refine lv_aload_n hx hb dX7_learn_19 rfl (lv_at hl 0 rfl) ?_
      refine va_get (D := D) (ci := 7) (v := .ref (ad 14)) (C := RX7) (T := TX7) (N := 7) hx hb hts hiX7 hown hK hP 0 wXg0 rfl 3 (by decide) (hts (.fieldLink RX7 37 "ArcGuesser" "candidates" "LArcGuesser$Candidates;") (List.mem_of_getElem? (i := 1) rfl)) (fun _ h9 => h9) rfl dX7_learn_20 ?_
      refine w_callv (va_runVN (As := []) (rest := []) ⟨hx, hb, hml, hown, hts⟩ (mtX1_gather l D ad cA A σ2  _ hq) ⟨va_cnB 0 hts ggX7_learn_X1_gather rfl rfl rfl (hN (.methodLinkNest RX7 172 yX1_gather "ArcGuesser") (List.mem_of_getElem? (i := 46) rfl)) (hts (.initialized RX1) (List.mem_of_getElem? (i := 21) rfl)) (by decide +kernel) ⟨Nat.le_of_ble_eq_true rfl, Nat.le_of_ble_eq_true rfl⟩, hts (.instanceMethod yX1_gather) (List.mem_of_getElem? (i := 20) rfl), hts (.selects RX1 yX1_gather yX1_gather) (List.mem_of_getElem? (i := 22) rfl)⟩ ⟨stW_blind nwX_ok, va_recv hK hP (ci := 1) (q0 := 14) rfl wXg14, stW_pass hA hS hN hK hP hD nwX_ok⟩ rfl rfl hl.1 rfl (lv_room (Nat.le_of_ble_eq_true rfl)) dX7_learn_23 ⟨Nat.le_of_ble_eq_true rfl, Nat.le_of_ble_eq_true rfl⟩) hS (fun σ3 H locs hq hP hD hS => ?_)
      refine lv_aload_n hx hb dX7_learn_26 rfl (lv_at hl 0 rfl) ?_
      refine va_get (D := D) (ci := 7) (v := .ref (ad 14)) (C := RX7) (T := TX7) (N := 7) hx hb hts hiX7 hown hK hP 0 wXg0 rfl 3 (by decide) (hts (.fieldLink RX7 37 "ArcGuesser" "candidates" "LArcGuesser$Candidates;") (List.mem_of_getElem? (i := 1) rfl)) (fun _ h9 => h9) rfl dX7_learn_27 ?_
      refine w_calli (va_runVN (As := []) (rest := []) ⟨hx, hb, hml, hown, hts⟩ (mtX1_canBeJudged l D ad cA A σ3  _ hq) ⟨va_cnB 0 hts ggX7_learn_X1_canBeJudged rfl rfl rfl (hN (.methodLinkNest RX7 175 yX1_canBeJudged "ArcGuesser") (List.mem_of_getElem? (i := 47) rfl)) (hts (.initialized RX1) (List.mem_of_getElem? (i := 21) rfl)) (by decide +kernel) ⟨Nat.le_of_ble_eq_true rfl, Nat.le_of_ble_eq_true rfl⟩, hts (.instanceMethod yX1_canBeJudged) (List.mem_of_getElem? (i := 35) rfl), hts (.selects RX1 yX1_canBeJudged yX1_canBeJudged) (List.mem_of_getElem? (i := 36) rfl)⟩ ⟨stW_blind nwX_ok, va_recv hK hP (ci := 1) (q0 := 14) rfl wXg14, stW_pass hA hS hN hK hP hD nwX_ok⟩ rfl rfl hl.1 rfl (lv_room (Nat.le_of_ble_eq_true rfl)) dX7_learn_30 ⟨Nat.le_of_ble_eq_true rfl, Nat.le_of_ble_eq_true rfl⟩) hS (fun r4 σ4 H locs hq hP hD hS => ?_)
      refine lv_if_ne (tgt := 39) hx hb dX7_learn_33 (by decide) (fun hc => ?_) (fun hc => ?_)
      · have hq := hq.1 hc
        refine lv_aload_n hx hb dX7_learn_39 rfl (lv_at hl 0 rfl) ?_
        refine va_get (D := D) (ci := 7) (v := .ref (ad 20)) (C := RX7) (T := TX7) (N := 7) hx hb hts hiX7 hown hK hP 0 wXg0 rfl 4 (by decide) (hts (.fieldLink RX7 44 "ArcGuesser" "learner" "LArcGuesser$Learner;") (List.mem_of_getElem? (i := 2) rfl)) (fun _ h9 => h9) rfl dX7_learn_40 ?_
        refine lv_iload_n hx hb dX7_learn_43 rfl (lv_at hl 1 rfl) ?_
        refine w_callv (va_runVN (As := [.int p1]) (rest := []) ⟨hx, hb, hml, hown, hts⟩ (mtX3_choose l D ad cA A σ4 p1 _ hq) ⟨va_cnB 1 hts ggX7_learn_X3_choose rfl rfl rfl (hN (.methodLinkNest RX7 201 yX3_choose "ArcGuesser") (List.mem_of_getElem? (i := 53) rfl)) (hts (.initialized RX3) (List.mem_of_getElem? (i := 7) rfl)) (by decide +kernel) ⟨Nat.le_of_ble_eq_true rfl, Nat.le_of_ble_eq_true rfl⟩, hts (.instanceMethod yX3_choose) (List.mem_of_getElem? (i := 38) rfl), hts (.selects RX3 yX3_choose yX3_choose) (List.mem_of_getElem? (i := 39) rfl)⟩ ⟨stW_blind nwX_ok, va_recv hK hP (ci := 3) (q0 := 20) rfl wXg20, stW_pass hA hS hN hK hP hD nwX_ok⟩ rfl rfl hl.1 rfl (lv_room (Nat.le_of_ble_eq_true rfl)) dX7_learn_44 ⟨Nat.le_of_ble_eq_true rfl, Nat.le_of_ble_eq_true rfl⟩) hS (fun σ5 H locs hq hP hD hS => ?_)
        refine lv_aload_n hx hb dX7_learn_47 rfl (lv_at hl 0 rfl) ?_
        refine va_get (D := D) (ci := 7) (v := .ref (ad 20)) (C := RX7) (T := TX7) (N := 7) hx hb hts hiX7 hown hK hP 0 wXg0 rfl 4 (by decide) (hts (.fieldLink RX7 44 "ArcGuesser" "learner" "LArcGuesser$Learner;") (List.mem_of_getElem? (i := 2) rfl)) (fun _ h9 => h9) rfl dX7_learn_48 ?_
        refine lv_aload_n hx hb dX7_learn_51 rfl (lv_at hl 0 rfl) ?_
        refine va_get (D := D) (ci := 7) (v := .ref (ad 11)) (C := RX7) (T := TX7) (N := 7) hx hb hts hiX7 hown hK hP 0 wXg0 rfl 1 (by decide) (hts (.fieldLink RX7 21 "ArcGuesser" "measures" "LArcGuesser$Measures;") (List.mem_of_getElem? (i := 3) rfl)) (fun _ h9 => h9) rfl dX7_learn_52 ?_
        refine lv_aload_n hx hb dX7_learn_55 rfl (lv_at hl 0 rfl) ?_
        refine va_get (D := D) (ci := 7) (v := .ref (ad 14)) (C := RX7) (T := TX7) (N := 7) hx hb hts hiX7 hown hK hP 0 wXg0 rfl 3 (by decide) (hts (.fieldLink RX7 37 "ArcGuesser" "candidates" "LArcGuesser$Candidates;") (List.mem_of_getElem? (i := 1) rfl)) (fun _ h9 => h9) rfl dX7_learn_56 ?_
        refine w_callv (va_runVN (As := [.ref (ad 11), .ref (ad 14)]) (rest := []) ⟨hx, hb, hml, hown, hts⟩ (mtX3_measureAll l D ad cA A σ5  _ hq) ⟨va_cnB 2 hts ggX7_learn_X3_measureAll rfl rfl rfl (hN (.methodLinkNest RX7 204 yX3_measureAll "ArcGuesser") (List.mem_of_getElem? (i := 54) rfl)) (hts (.initialized RX3) (List.mem_of_getElem? (i := 7) rfl)) (by decide +kernel) ⟨Nat.le_of_ble_eq_true rfl, Nat.le_of_ble_eq_true rfl⟩, hts (.instanceMethod yX3_measureAll) (List.mem_of_getElem? (i := 43) rfl), hts (.selects RX3 yX3_measureAll yX3_measureAll) (List.mem_of_getElem? (i := 44) rfl)⟩ ⟨stW_blind nwX_ok, va_recv hK hP (ci := 3) (q0 := 20) rfl wXg20, stW_pass hA hS hN hK hP hD nwX_ok⟩ rfl rfl hl.1 rfl (lv_room (Nat.le_of_ble_eq_true rfl)) dX7_learn_59 ⟨Nat.le_of_ble_eq_true rfl, Nat.le_of_ble_eq_true rfl⟩) hS (fun σ6 H locs hq hP hD hS => ?_)
        refine lv_aload_n hx hb dX7_learn_62 rfl (lv_at hl 0 rfl) ?_
        refine va_get (D := D) (ci := 7) (v := .ref (ad 20)) (C := RX7) (T := TX7) (N := 7) hx hb hts hiX7 hown hK hP 0 wXg0 rfl 4 (by decide) (hts (.fieldLink RX7 44 "ArcGuesser" "learner" "LArcGuesser$Learner;") (List.mem_of_getElem? (i := 2) rfl)) (fun _ h9 => h9) rfl dX7_learn_63 ?_
        refine lv_iload_n hx hb dX7_learn_66 rfl (lv_at hl 2 rfl) ?_
        refine lv_aload_n hx hb dX7_learn_67 rfl (lv_at hl 0 rfl) ?_
        refine va_get (D := D) (ci := 7) (v := .ref (ad 14)) (C := RX7) (T := TX7) (N := 7) hx hb hts hiX7 hown hK hP 0 wXg0 rfl 3 (by decide) (hts (.fieldLink RX7 37 "ArcGuesser" "candidates" "LArcGuesser$Candidates;") (List.mem_of_getElem? (i := 1) rfl)) (fun _ h9 => h9) rfl dX7_learn_68 ?_
        refine w_calli (va_runVN (As := [.int p2, .ref (ad 14)]) (rest := []) ⟨hx, hb, hml, hown, hts⟩ (mtX3_findBest l D ad cA A σ6 p2 _ hq) ⟨va_cnB 2 hts ggX7_learn_X3_findBest rfl rfl rfl (hN (.methodLinkNest RX7 208 yX3_findBest "ArcGuesser") (List.mem_of_getElem? (i := 55) rfl)) (hts (.initialized RX3) (List.mem_of_getElem? (i := 7) rfl)) (by decide +kernel) ⟨Nat.le_of_ble_eq_true rfl, Nat.le_of_ble_eq_true rfl⟩, hts (.instanceMethod yX3_findBest) (List.mem_of_getElem? (i := 113) rfl), hts (.selects RX3 yX3_findBest yX3_findBest) (List.mem_of_getElem? (i := 114) rfl)⟩ ⟨stW_blind nwX_ok, va_recv hK hP (ci := 3) (q0 := 20) rfl wXg20, stW_pass hA hS hN hK hP hD nwX_ok⟩ rfl rfl hl.1 rfl (lv_room (Nat.le_of_ble_eq_true rfl)) dX7_learn_71 ⟨Nat.le_of_ble_eq_true rfl, Nat.le_of_ble_eq_true rfl⟩) hS (fun r7 σ7 H locs hq hP hD hS => ?_)
        refine lv_istore_n (lv' := [(3, .int r7), (0, .ref (ad 0)), (1, .int p1), (2, .int p2)]) hx hb dX7_learn_74 rfl hl (by decide) rfl (fun ls hl => ?_)
        refine lv_aload_n hx hb dX7_learn_75 rfl (lv_at hl 1 rfl) ?_
        refine va_get (D := D) (ci := 7) (v := .ref (ad 20)) (C := RX7) (T := TX7) (N := 7) hx hb hts hiX7 hown hK hP 0 wXg0 rfl 4 (by decide) (hts (.fieldLink RX7 44 "ArcGuesser" "learner" "LArcGuesser$Learner;") (List.mem_of_getElem? (i := 2) rfl)) (fun _ h9 => h9) rfl dX7_learn_76 ?_
        refine lv_aload_n hx hb dX7_learn_79 rfl (lv_at hl 1 rfl) ?_
        refine va_get (D := D) (ci := 7) (v := .ref (ad 12)) (C := RX7) (T := TX7) (N := 7) hx hb hts hiX7 hown hK hP 0 wXg0 rfl 2 (by decide) (hts (.fieldLink RX7 30 "ArcGuesser" "mix" "LArcGuesser$Mix;") (List.mem_of_getElem? (i := 4) rfl)) (fun _ h9 => h9) rfl dX7_learn_80 ?_
        refine va_getN (D := D) (ci := 5) (v := .ref (ad 13)) (C := RX5) (T := TX5) (N := 2) hx hb hts hiX5 hown hK hP 12 wXg12 rfl 1 (by decide) (va_Nw.use rfl (hN (.fieldLinkNest RX7 129 "ArcGuesser$Mix" "weights" "[I" "ArcGuesser") (List.mem_of_getElem? (i := 7) rfl))) (fun _ h9 => h9) rfl dX7_learn_83 ?_
        refine w_callv (va_runVN (As := [.ref (ad 13)]) (rest := []) ⟨hx, hb, hml, hown, hts⟩ (mtX3_handOver l D ad cA A σ7  _ hq) ⟨va_cnB 1 hts ggX7_learn_X3_handOver rfl rfl rfl (hN (.methodLinkNest RX7 212 yX3_handOver "ArcGuesser") (List.mem_of_getElem? (i := 56) rfl)) (hts (.initialized RX3) (List.mem_of_getElem? (i := 7) rfl)) (by decide +kernel) ⟨Nat.le_of_ble_eq_true rfl, Nat.le_of_ble_eq_true rfl⟩, hts (.instanceMethod yX3_handOver) (List.mem_of_getElem? (i := 142) rfl), hts (.selects RX3 yX3_handOver yX3_handOver) (List.mem_of_getElem? (i := 143) rfl)⟩ ⟨stW_blind nwX_ok, va_recv hK hP (ci := 3) (q0 := 20) rfl wXg20, stW_pass hA hS hN hK hP hD nwX_ok⟩ rfl rfl hl.1 rfl (lv_room (Nat.le_of_ble_eq_true rfl)) dX7_learn_86 ⟨Nat.le_of_ble_eq_true rfl, Nat.le_of_ble_eq_true rfl⟩) hS (fun σ8 H locs hq hP hD hS => ?_)
        refine lv_aload_n hx hb dX7_learn_89 rfl (lv_at hl 1 rfl) ?_
        refine va_get (D := D) (ci := 7) (v := .ref (ad 29)) (C := RX7) (T := TX7) (N := 7) hx hb hts hiX7 hown hK hP 0 wXg0 rfl 6 (by decide) (hts (.fieldLink RX7 58 "ArcGuesser" "board" "LArcGuesser$Board;") (List.mem_of_getElem? (i := 5) rfl)) (fun _ h9 => h9) rfl dX7_learn_90 ?_
        refine lv_iload_n hx hb dX7_learn_93 rfl (lv_at hl 0 rfl) ?_
        refine lv_i2l hx hb dX7_learn_94 rfl ?_
        refine lv_aload_n hx hb dX7_learn_95 rfl (lv_at hl 1 rfl) ?_
        refine va_get (D := D) (ci := 7) (v := .ref (ad 14)) (C := RX7) (T := TX7) (N := 7) hx hb hts hiX7 hown hK hP 0 wXg0 rfl 3 (by decide) (hts (.fieldLink RX7 37 "ArcGuesser" "candidates" "LArcGuesser$Candidates;") (List.mem_of_getElem? (i := 1) rfl)) (fun _ h9 => h9) rfl dX7_learn_96 ?_
        refine w_calli (va_runVN (As := []) (rest := [.long (r7).toInt64, .ref (ad 29)]) ⟨hx, hb, hml, hown, hts⟩ (mtX1_halvesInAll l D ad cA A σ8  _ hq) ⟨va_cnB 0 hts ggX7_learn_X1_halvesInAll rfl rfl rfl (hN (.methodLinkNest RX7 186 yX1_halvesInAll "ArcGuesser") (List.mem_of_getElem? (i := 50) rfl)) (hts (.initialized RX1) (List.mem_of_getElem? (i := 21) rfl)) (by decide +kernel) ⟨Nat.le_of_ble_eq_true rfl, Nat.le_of_ble_eq_true rfl⟩, hts (.instanceMethod yX1_halvesInAll) (List.mem_of_getElem? (i := 149) rfl), hts (.selects RX1 yX1_halvesInAll yX1_halvesInAll) (List.mem_of_getElem? (i := 150) rfl)⟩ ⟨stW_blind nwX_ok, va_recv hK hP (ci := 1) (q0 := 14) rfl wXg14, stW_pass hA hS hN hK hP hD nwX_ok⟩ rfl rfl hl.1 rfl (lv_room (Nat.le_of_ble_eq_true rfl)) dX7_learn_99 ⟨Nat.le_of_ble_eq_true rfl, Nat.le_of_ble_eq_true rfl⟩) hS (fun r9 σ9 H locs hq hP hD hS => ?_)
        refine lv_i2l hx hb dX7_learn_102 rfl ?_
        refine w_callv (va_runVN (As := [.long (r7).toInt64, .long (r9).toInt64]) (rest := []) ⟨hx, hb, hml, hown, hts⟩ (mtX0_show l D ad cA A σ9 (r7).toInt64 (r9).toInt64 _ hq) ⟨va_cnB 2 hts ggX7_learn_X0_show rfl rfl rfl (hN (.methodLinkNest RX7 142 yX0_show "ArcGuesser") (List.mem_of_getElem? (i := 42) rfl)) (hts (.initialized RX0) (List.mem_of_getElem? (i := 153) rfl)) (by decide +kernel) ⟨Nat.le_of_ble_eq_true rfl, Nat.le_of_ble_eq_true rfl⟩, hts (.instanceMethod yX0_show) (List.mem_of_getElem? (i := 152) rfl), hts (.selects RX0 yX0_show yX0_show) (List.mem_of_getElem? (i := 154) rfl)⟩ ⟨stW_blind nwX_ok, va_recv hK hP (ci := 0) (q0 := 29) rfl wXg29, stW_pass hA hS hN hK hP hD nwX_ok⟩ rfl rfl hl.1 rfl (lv_room (Nat.le_of_ble_eq_true rfl)) dX7_learn_103 ⟨Nat.le_of_ble_eq_true rfl, Nat.le_of_ble_eq_true rfl⟩) hS (fun σ10 H locs hq hP hD hS => ?_)
        refine lv_iconst (v := (1 : Int32)) hx hb dX7_learn_106 (by decide) ?_
        exact W.iret (v := (1 : Int32)) hx hb hr (fun t ht hW => ⟨⟨(1 : Int32), σ10, rfl, hq, by rw [ht]; exact hP, hD⟩, hS.F ht⟩) hS.2.2 dX7_learn_107
      · have hq := hq.2 hc
        refine lv_bipush (v := (-3 : Int32)) hx hb dX7_learn_36 (by decide) ?_
        exact W.iret (v := (-3 : Int32)) hx hb hr (fun t ht hW => ⟨⟨(-3 : Int32), σ4, rfl, hq, by rw [ht]; exact hP, hD⟩, hS.F ht⟩) hS.2.2 dX7_learn_38
    · have hq := hq.2 hc
      refine lv_bipush (v := (-2 : Int32)) hx hb dX7_learn_16 (by decide) ?_
      exact W.iret (v := (-2 : Int32)) hx hb hr (fun t ht hW => ⟨⟨(-2 : Int32), σ2, rfl, hq, by rw [ht]; exact hP, hD⟩, hS.F ht⟩) hS.2.2 dX7_learn_18
/-! ArcGuesser.paths(III)I -/
def X7_paths_wp (σ : Sto) (p1 : Int32) (p2 : Int32) (p3 : Int32) (Post : Int32 → Sto → Prop) : Prop :=
  (X7_isWithin_wp σ p1 (0 : Int32) (9 : Int32) (fun r1 σ1 => ((r1 = 0 → (Post (-2 : Int32) σ1)) ∧ (¬ r1 = 0 → (X7_isWithin_wp σ1 p2 (0 : Int32) (9 : Int32) (fun r2 σ2 => ((r2 = 0 → (Post (-2 : Int32) σ2)) ∧ (¬ r2 = 0 → (X7_isWithin_wp σ2 p3 (1 : Int32) (2 : Int32) (fun r3 σ3 => ((¬ r3 = 0 → (X4_setPaths_wp σ3 p1 p2 p3 (fun σ4 => (Post (1 : Int32) σ4)))) ∧ (r3 = 0 → (Post (-2 : Int32) σ3)))))))))))))
set_option maxHeartbeats 4000000 in
set_option maxRecDepth 100000 in
theorem mtX7_paths (l : Launch) (D : va_G) (ad : Nat → Nat) (cA : Nat → ClassId) (A : Nat → Prop) (σ : Sto) (p1 : Int32) (p2 : Int32) (p3 : Int32) (Post : Int32 → Sto → Prop) (hwp : X7_paths_wp σ p1 p2 p3 Post) : Met l yX7_paths wsX7_paths ({ frames := 1, cells := 0, slots := 0, locals := 23 }) (va_Pc [.ref (ad 0), .int p1, .int p2, .int p3] (stW D (tyX cA) nwX (wX ad cA) A σ)) (va_Qi Post (enW D (wX ad cA) A) A) 0 0 A := by
  refine Met.ofW (cc := cX7_paths) (maxL := 4) (ret := (some .int)) (by decide) rfl ?_
  intro p e s m args below meth c s₁ B hml hv
  obtain ⟨rfl, hA, hN, hP, hK, hD⟩ := hv
  have hx := B.exec
  have hb := B.bytes
  have hr := B.returns
  have hts := atoms_spec (ws := wsX7_paths) B.pre
  have hown : s.vm.findClass RX7 = some m.cls := findClass_of_methodNamed B.named
  have hlocks := B.notSynchronized
  have hiX7 : ∀ w ∈ wsX70, w ∈ wsX7_paths := by decide +kernel
  have hS : va_S A s.heap s.heap [] := va_S.rf
  have hl := lv_entry ([.ref (ad 0), .int p1, .int p2, .int p3]) (n := 4) (Nat.le_of_ble_eq_true rfl)
  rw [lg_entry_eq]
  generalize (lg_sl ([.ref (ad 0), .int p1, .int p2, .int p3]) ++ List.replicate (4 - (lg_sl ([.ref (ad 0), .int p1, .int p2, .int p3])).length) Slot.unset).toArray = ls at hl ⊢
  have hl : lv_has ls 4 [(0, .ref (ad 0)), (1, .int p1), (2, .int p2), (3, .int p3)] := hl
  have hq := hwp
  unfold X7_paths_wp at hq
  refine lv_iload_n hx hb dX7_paths_0 rfl (lv_at hl 1 rfl) ?_
  refine lv_iconst (v := (0 : Int32)) hx hb dX7_paths_1 (by decide) ?_
  refine lv_bipush (v := (9 : Int32)) hx hb dX7_paths_2 (by decide) ?_
  refine w_calli (va_runS (As := [.int p1, .int (0 : Int32), .int (9 : Int32)]) (rest := []) ⟨hx, hb, hml, hown, hts⟩ (mtX7_isWithin l D ad cA A σ p1 (0 : Int32) (9 : Int32) _ hq) (va_cwS 3 hts gX7_paths_X7_isWithin rfl rfl rfl (by decide +kernel) ⟨Nat.le_of_ble_eq_true rfl, Nat.le_of_ble_eq_true rfl⟩) ⟨stW_blind nwX_ok, stW_pass hA hS hN hK hP hD nwX_ok⟩ rfl rfl hl.1 rfl (lv_room (Nat.le_of_ble_eq_true rfl)) dX7_paths_4 ⟨Nat.le_of_ble_eq_true rfl, Nat.le_of_ble_eq_true rfl⟩) hS (fun r1 σ1 H locs hq hP hD hS => ?_)
  refine lv_if_eq (tgt := 29) hx hb dX7_paths_7 (by decide) (fun hc => ?_) (fun hc => ?_)
  · have hq := hq.1 hc
    refine lv_bipush (v := (-2 : Int32)) hx hb dX7_paths_29 (by decide) ?_
    exact W.iret (v := (-2 : Int32)) hx hb hr (fun t ht hW => ⟨⟨(-2 : Int32), σ1, rfl, hq, by rw [ht]; exact hP, hD⟩, hS.F ht⟩) hS.2.2 dX7_paths_31
  · have hq := hq.2 hc
    refine lv_iload_n hx hb dX7_paths_10 rfl (lv_at hl 2 rfl) ?_
    refine lv_iconst (v := (0 : Int32)) hx hb dX7_paths_11 (by decide) ?_
    refine lv_bipush (v := (9 : Int32)) hx hb dX7_paths_12 (by decide) ?_
    refine w_calli (va_runS (As := [.int p2, .int (0 : Int32), .int (9 : Int32)]) (rest := []) ⟨hx, hb, hml, hown, hts⟩ (mtX7_isWithin l D ad cA A σ1 p2 (0 : Int32) (9 : Int32) _ hq) (va_cwS 3 hts gX7_paths_X7_isWithin rfl rfl rfl (by decide +kernel) ⟨Nat.le_of_ble_eq_true rfl, Nat.le_of_ble_eq_true rfl⟩) ⟨stW_blind nwX_ok, stW_pass hA hS hN hK hP hD nwX_ok⟩ rfl rfl hl.1 rfl (lv_room (Nat.le_of_ble_eq_true rfl)) dX7_paths_14 ⟨Nat.le_of_ble_eq_true rfl, Nat.le_of_ble_eq_true rfl⟩) hS (fun r2 σ2 H locs hq hP hD hS => ?_)
    refine lv_if_eq (tgt := 29) hx hb dX7_paths_17 (by decide) (fun hc => ?_) (fun hc => ?_)
    · have hq := hq.1 hc
      refine lv_bipush (v := (-2 : Int32)) hx hb dX7_paths_29 (by decide) ?_
      exact W.iret (v := (-2 : Int32)) hx hb hr (fun t ht hW => ⟨⟨(-2 : Int32), σ2, rfl, hq, by rw [ht]; exact hP, hD⟩, hS.F ht⟩) hS.2.2 dX7_paths_31
    · have hq := hq.2 hc
      refine lv_iload_n hx hb dX7_paths_20 rfl (lv_at hl 3 rfl) ?_
      refine lv_iconst (v := (1 : Int32)) hx hb dX7_paths_21 (by decide) ?_
      refine lv_iconst (v := (2 : Int32)) hx hb dX7_paths_22 (by decide) ?_
      refine w_calli (va_runS (As := [.int p3, .int (1 : Int32), .int (2 : Int32)]) (rest := []) ⟨hx, hb, hml, hown, hts⟩ (mtX7_isWithin l D ad cA A σ2 p3 (1 : Int32) (2 : Int32) _ hq) (va_cwS 3 hts gX7_paths_X7_isWithin rfl rfl rfl (by decide +kernel) ⟨Nat.le_of_ble_eq_true rfl, Nat.le_of_ble_eq_true rfl⟩) ⟨stW_blind nwX_ok, stW_pass hA hS hN hK hP hD nwX_ok⟩ rfl rfl hl.1 rfl (lv_room (Nat.le_of_ble_eq_true rfl)) dX7_paths_23 ⟨Nat.le_of_ble_eq_true rfl, Nat.le_of_ble_eq_true rfl⟩) hS (fun r3 σ3 H locs hq hP hD hS => ?_)
      refine lv_if_ne (tgt := 32) hx hb dX7_paths_26 (by decide) (fun hc => ?_) (fun hc => ?_)
      · have hq := hq.1 hc
        refine lv_aload_n hx hb dX7_paths_32 rfl (lv_at hl 0 rfl) ?_
        refine va_get (D := D) (ci := 7) (v := .ref (ad 11)) (C := RX7) (T := TX7) (N := 7) hx hb hts hiX7 hown hK hP 0 wXg0 rfl 1 (by decide) (hts (.fieldLink RX7 21 "ArcGuesser" "measures" "LArcGuesser$Measures;") (List.mem_of_getElem? (i := 1) rfl)) (fun _ h9 => h9) rfl dX7_paths_33 ?_
        refine lv_iload_n hx hb dX7_paths_36 rfl (lv_at hl 1 rfl) ?_
        refine lv_iload_n hx hb dX7_paths_37 rfl (lv_at hl 2 rfl) ?_
        refine lv_iload_n hx hb dX7_paths_38 rfl (lv_at hl 3 rfl) ?_
        refine w_callv (va_runVN (As := [.int p1, .int p2, .int p3]) (rest := []) ⟨hx, hb, hml, hown, hts⟩ (mtX4_setPaths l D ad cA A σ3 p1 p2 p3 _ hq) ⟨va_cnB 3 hts ggX7_paths_X4_setPaths rfl rfl rfl (hN (.methodLinkNest RX7 122 yX4_setPaths "ArcGuesser") (List.mem_of_getElem? (i := 39) rfl)) (hts (.initialized RX4) (List.mem_of_getElem? (i := 7) rfl)) (by decide +kernel) ⟨Nat.le_of_ble_eq_true rfl, Nat.le_of_ble_eq_true rfl⟩, hts (.instanceMethod yX4_setPaths) (List.mem_of_getElem? (i := 6) rfl), hts (.selects RX4 yX4_setPaths yX4_setPaths) (List.mem_of_getElem? (i := 8) rfl)⟩ ⟨stW_blind nwX_ok, va_recv hK hP (ci := 4) (q0 := 11) rfl wXg11, stW_pass hA hS hN hK hP hD nwX_ok⟩ rfl rfl hl.1 rfl (lv_room (Nat.le_of_ble_eq_true rfl)) dX7_paths_39 ⟨Nat.le_of_ble_eq_true rfl, Nat.le_of_ble_eq_true rfl⟩) hS (fun σ4 H locs hq hP hD hS => ?_)
        refine lv_iconst (v := (1 : Int32)) hx hb dX7_paths_42 (by decide) ?_
        exact W.iret (v := (1 : Int32)) hx hb hr (fun t ht hW => ⟨⟨(1 : Int32), σ4, rfl, hq, by rw [ht]; exact hP, hD⟩, hS.F ht⟩) hS.2.2 dX7_paths_43
      · have hq := hq.2 hc
        refine lv_bipush (v := (-2 : Int32)) hx hb dX7_paths_29 (by decide) ?_
        exact W.iret (v := (-2 : Int32)) hx hb hr (fun t ht hW => ⟨⟨(-2 : Int32), σ3, rfl, hq, by rw [ht]; exact hP, hD⟩, hS.F ht⟩) hS.2.2 dX7_paths_31
/-! ArcGuesser.place(II)I -/
def X7_place_wp (σ : Sto) (p1 : Int32) (p2 : Int32) (Post : Int32 → Sto → Prop) : Prop :=
  (X6_pairFor_wp σ p1 p2 (fun r1 σ1 => ((¬ r1 = (-1 : Int32) → (vp_in r1 132 ∧ ((¬ (σ1.1 4 (r1).toNatClampNeg) = (1 : Int32) → (X7_rankAll_wp σ1  (fun σ2 => (X1_placeOfPair_wp σ2 r1 (fun r3 σ3 => (Post r3 σ3)))))) ∧ ((σ1.1 4 (r1).toNatClampNeg) = (1 : Int32) → (Post (-3 : Int32) σ1))))) ∧ (r1 = (-1 : Int32) → (Post (-1 : Int32) σ1)))))
set_option maxHeartbeats 4000000 in
set_option maxRecDepth 100000 in
theorem mtX7_place (l : Launch) (D : va_G) (ad : Nat → Nat) (cA : Nat → ClassId) (A : Nat → Prop) (σ : Sto) (p1 : Int32) (p2 : Int32) (Post : Int32 → Sto → Prop) (hwp : X7_place_wp σ p1 p2 Post) : Met l yX7_place wsX7_place ({ frames := 7, cells := 0, slots := 0, locals := 158 }) (va_Pc [.ref (ad 0), .int p1, .int p2] (stW D (tyX cA) nwX (wX ad cA) A σ)) (va_Qi Post (enW D (wX ad cA) A) A) 0 0 A := by
  refine Met.ofW (cc := cX7_place) (maxL := 4) (ret := (some .int)) (by decide) rfl ?_
  intro p e s m args below meth c s₁ B hml hv
  obtain ⟨rfl, hA, hN, hP, hK, hD⟩ := hv
  have hx := B.exec
  have hb := B.bytes
  have hr := B.returns
  have hts := atoms_spec (ws := wsX7_place) B.pre
  have hown : s.vm.findClass RX7 = some m.cls := findClass_of_methodNamed B.named
  have hlocks := B.notSynchronized
  have hiX6 : ∀ w ∈ wsX60, w ∈ wsX7_place := by decide +kernel
  have hiX7 : ∀ w ∈ wsX70, w ∈ wsX7_place := by decide +kernel
  have hS : va_S A s.heap s.heap [] := va_S.rf
  have hl := lv_entry ([.ref (ad 0), .int p1, .int p2]) (n := 4) (Nat.le_of_ble_eq_true rfl)
  rw [lg_entry_eq]
  generalize (lg_sl ([.ref (ad 0), .int p1, .int p2]) ++ List.replicate (4 - (lg_sl ([.ref (ad 0), .int p1, .int p2])).length) Slot.unset).toArray = ls at hl ⊢
  have hl : lv_has ls 4 [(0, .ref (ad 0)), (1, .int p1), (2, .int p2)] := hl
  have hq := hwp
  unfold X7_place_wp at hq
  refine lv_aload_n hx hb dX7_place_0 rfl (lv_at hl 0 rfl) ?_
  refine va_get (D := D) (ci := 7) (v := .ref (ad 1)) (C := RX7) (T := TX7) (N := 7) hx hb hts hiX7 hown hK hP 0 wXg0 rfl 0 (by decide) (hts (.fieldLink RX7 12 "ArcGuesser" "net" "LArcGuesser$Net;") (List.mem_of_getElem? (i := 1) rfl)) (fun _ h9 => h9) rfl dX7_place_1 ?_
  refine lv_iload_n hx hb dX7_place_4 rfl (lv_at hl 1 rfl) ?_
  refine lv_iload_n hx hb dX7_place_5 rfl (lv_at hl 2 rfl) ?_
  refine w_calli (va_runVN (As := [.int p1, .int p2]) (rest := []) ⟨hx, hb, hml, hown, hts⟩ (mtX6_pairFor l D ad cA A σ p1 p2 _ hq) ⟨va_cnB 2 hts ggX7_place_X6_pairFor rfl rfl rfl (hN (.methodLinkNest RX7 74 yX6_pairFor "ArcGuesser") (List.mem_of_getElem? (i := 31) rfl)) (hts (.initialized RX6) (List.mem_of_getElem? (i := 4) rfl)) (by decide +kernel) ⟨Nat.le_of_ble_eq_true rfl, Nat.le_of_ble_eq_true rfl⟩, hts (.instanceMethod yX6_pairFor) (List.mem_of_getElem? (i := 3) rfl), hts (.selects RX6 yX6_pairFor yX6_pairFor) (List.mem_of_getElem? (i := 5) rfl)⟩ ⟨stW_blind nwX_ok, va_recv hK hP (ci := 6) (q0 := 1) rfl wXg1, stW_pass hA hS hN hK hP hD nwX_ok⟩ rfl rfl hl.1 rfl (lv_room (Nat.le_of_ble_eq_true rfl)) dX7_place_6 ⟨Nat.le_of_ble_eq_true rfl, Nat.le_of_ble_eq_true rfl⟩) hS (fun r1 σ1 H locs hq hP hD hS => ?_)
  refine lv_istore_n (lv' := [(3, .int r1), (0, .ref (ad 0)), (1, .int p1), (2, .int p2)]) hx hb dX7_place_9 rfl hl (by decide) rfl (fun ls hl => ?_)
  refine lv_iload_n hx hb dX7_place_10 rfl (lv_at hl 0 rfl) ?_
  refine lv_iconst (v := (-1 : Int32)) hx hb dX7_place_11 (by decide) ?_
  refine lv_icmp_ne (tgt := 17) hx hb dX7_place_12 (by decide) (fun hc => ?_) (fun hc => ?_)
  · have hq := hq.1 hc
    refine lv_aload_n hx hb dX7_place_17 rfl (lv_at hl 1 rfl) ?_
    refine va_get (D := D) (ci := 7) (v := .ref (ad 1)) (C := RX7) (T := TX7) (N := 7) hx hb hts hiX7 hown hK hP 0 wXg0 rfl 0 (by decide) (hts (.fieldLink RX7 12 "ArcGuesser" "net" "LArcGuesser$Net;") (List.mem_of_getElem? (i := 1) rfl)) (fun _ h9 => h9) rfl dX7_place_18 ?_
    refine va_getN (D := D) (ci := 6) (v := .ref (ad 4)) (C := RX6) (T := TX6) (N := 13) hx hb hts hiX6 hown hK hP 1 wXg1 rfl 6 (by decide) (va_Nw.use rfl (hN (.fieldLinkNest RX7 78 "ArcGuesser$Net" "states" "[I" "ArcGuesser") (List.mem_of_getElem? (i := 1) rfl))) (fun _ h9 => h9) rfl dX7_place_21 ?_
    refine lv_iload_n hx hb dX7_place_24 rfl (lv_at hl 0 rfl) ?_
    refine va_iald hx hb hK hP 4 0 wXg4 rfl hq.1 dX7_place_25 ?_
    have hq := hq.2
    refine lv_iconst (v := (1 : Int32)) hx hb dX7_place_26 (by decide) ?_
    refine lv_icmp_ne (tgt := 33) hx hb dX7_place_27 (by decide) (fun hc => ?_) (fun hc => ?_)
    · have hq := hq.1 hc
      refine lv_aload_n hx hb dX7_place_33 rfl (lv_at hl 1 rfl) ?_
      refine w_callv (va_runV (As := []) (rest := []) ⟨hx, hb, hml, hown, hts⟩ (mtX7_rankAll l D ad cA A σ1  _ hq) (cwV 0 hts gX7_place_X7_rankAll rfl rfl rfl (by decide +kernel) ⟨Nat.le_of_ble_eq_true rfl, Nat.le_of_ble_eq_true rfl⟩) ⟨stW_blind nwX_ok, va_recv hK hP (ci := 7) (q0 := 0) rfl wXg0, stW_pass hA hS hN hK hP hD nwX_ok⟩ rfl rfl hl.1 rfl (lv_room (Nat.le_of_ble_eq_true rfl)) dX7_place_34 ⟨Nat.le_of_ble_eq_true rfl, Nat.le_of_ble_eq_true rfl⟩) hS (fun σ2 H locs hq hP hD hS => ?_)
      refine lv_aload_n hx hb dX7_place_37 rfl (lv_at hl 1 rfl) ?_
      refine va_get (D := D) (ci := 7) (v := .ref (ad 14)) (C := RX7) (T := TX7) (N := 7) hx hb hts hiX7 hown hK hP 0 wXg0 rfl 3 (by decide) (hts (.fieldLink RX7 37 "ArcGuesser" "candidates" "LArcGuesser$Candidates;") (List.mem_of_getElem? (i := 2) rfl)) (fun _ h9 => h9) rfl dX7_place_38 ?_
      refine lv_iload_n hx hb dX7_place_41 rfl (lv_at hl 0 rfl) ?_
      refine w_calli (va_runVN (As := [.int r1]) (rest := []) ⟨hx, hb, hml, hown, hts⟩ (mtX1_placeOfPair l D ad cA A σ2 r1 _ hq) ⟨va_cnB 1 hts ggX7_place_X1_placeOfPair rfl rfl rfl (hN (.methodLinkNest RX7 166 yX1_placeOfPair "ArcGuesser") (List.mem_of_getElem? (i := 44) rfl)) (hts (.initialized RX1) (List.mem_of_getElem? (i := 20) rfl)) (by decide +kernel) ⟨Nat.le_of_ble_eq_true rfl, Nat.le_of_ble_eq_true rfl⟩, hts (.instanceMethod yX1_placeOfPair) (List.mem_of_getElem? (i := 118) rfl), hts (.selects RX1 yX1_placeOfPair yX1_placeOfPair) (List.mem_of_getElem? (i := 119) rfl)⟩ ⟨stW_blind nwX_ok, va_recv hK hP (ci := 1) (q0 := 14) rfl wXg14, stW_pass hA hS hN hK hP hD nwX_ok⟩ rfl rfl hl.1 rfl (lv_room (Nat.le_of_ble_eq_true rfl)) dX7_place_42 ⟨Nat.le_of_ble_eq_true rfl, Nat.le_of_ble_eq_true rfl⟩) hS (fun r3 σ3 H locs hq hP hD hS => ?_)
      exact W.iret (v := r3) hx hb hr (fun t ht hW => ⟨⟨r3, σ3, rfl, hq, by rw [ht]; exact hP, hD⟩, hS.F ht⟩) hS.2.2 dX7_place_45
    · have hq := hq.2 hc
      refine lv_bipush (v := (-3 : Int32)) hx hb dX7_place_30 (by decide) ?_
      exact W.iret (v := (-3 : Int32)) hx hb hr (fun t ht hW => ⟨⟨(-3 : Int32), σ1, rfl, hq, by rw [ht]; exact hP, hD⟩, hS.F ht⟩) hS.2.2 dX7_place_32
  · have hq := hq.2 hc
    refine lv_iconst (v := (-1 : Int32)) hx hb dX7_place_15 (by decide) ?_
    exact W.iret (v := (-1 : Int32)) hx hb hr (fun t ht hW => ⟨⟨(-1 : Int32), σ1, rfl, hq, by rw [ht]; exact hP, hD⟩, hS.F ht⟩) hS.2.2 dX7_place_16
/-! ArcGuesser.ranked(I)I -/
def X7_ranked_wp (σ : Sto) (p1 : Int32) (Post : Int32 → Sto → Prop) : Prop :=
  ((p1 < 0 → (Post (-2 : Int32) σ)) ∧ (¬ p1 < 0 → (X6_candidateTotal_wp σ  (fun r1 σ1 => ((p1 < r1 → (X7_rankAll_wp σ1  (fun σ2 => (X1_pairAtPlace_wp σ2 p1 (fun r3 σ3 => (vp_in r3 132 ∧ (vp_in r3 132 ∧ (Post (((16 : Int32) * (σ3.1 2 (r3).toNatClampNeg)) + (σ3.1 3 (r3).toNatClampNeg)) σ3)))))))) ∧ (¬ p1 < r1 → (Post (-2 : Int32) σ1)))))))
set_option maxHeartbeats 4000000 in
set_option maxRecDepth 100000 in
theorem mtX7_ranked (l : Launch) (D : va_G) (ad : Nat → Nat) (cA : Nat → ClassId) (A : Nat → Prop) (σ : Sto) (p1 : Int32) (Post : Int32 → Sto → Prop) (hwp : X7_ranked_wp σ p1 Post) : Met l yX7_ranked wsX7_ranked ({ frames := 7, cells := 0, slots := 0, locals := 158 }) (va_Pc [.ref (ad 0), .int p1] (stW D (tyX cA) nwX (wX ad cA) A σ)) (va_Qi Post (enW D (wX ad cA) A) A) 0 0 A := by
  refine Met.ofW (cc := cX7_ranked) (maxL := 3) (ret := (some .int)) (by decide) rfl ?_
  intro p e s m args below meth c s₁ B hml hv
  obtain ⟨rfl, hA, hN, hP, hK, hD⟩ := hv
  have hx := B.exec
  have hb := B.bytes
  have hr := B.returns
  have hts := atoms_spec (ws := wsX7_ranked) B.pre
  have hown : s.vm.findClass RX7 = some m.cls := findClass_of_methodNamed B.named
  have hlocks := B.notSynchronized
  have hiX6 : ∀ w ∈ wsX60, w ∈ wsX7_ranked := by decide +kernel
  have hiX7 : ∀ w ∈ wsX70, w ∈ wsX7_ranked := by decide +kernel
  have hS : va_S A s.heap s.heap [] := va_S.rf
  have hl := lv_entry ([.ref (ad 0), .int p1]) (n := 3) (Nat.le_of_ble_eq_true rfl)
  rw [lg_entry_eq]
  generalize (lg_sl ([.ref (ad 0), .int p1]) ++ List.replicate (3 - (lg_sl ([.ref (ad 0), .int p1])).length) Slot.unset).toArray = ls at hl ⊢
  have hl : lv_has ls 3 [(0, .ref (ad 0)), (1, .int p1)] := hl
  have hq := hwp
  unfold X7_ranked_wp at hq
  refine lv_iload_n hx hb dX7_ranked_0 rfl (lv_at hl 1 rfl) ?_
  refine lv_if_lt (tgt := 15) hx hb dX7_ranked_1 (by decide) (fun hc => ?_) (fun hc => ?_)
  · have hq := hq.1 hc
    refine lv_bipush (v := (-2 : Int32)) hx hb dX7_ranked_15 (by decide) ?_
    exact W.iret (v := (-2 : Int32)) hx hb hr (fun t ht hW => ⟨⟨(-2 : Int32), σ, rfl, hq, by rw [ht]; exact hP, hD⟩, hS.F ht⟩) hS.2.2 dX7_ranked_17
  · have hq := hq.2 hc
    refine lv_iload_n hx hb dX7_ranked_4 rfl (lv_at hl 1 rfl) ?_
    refine lv_aload_n hx hb dX7_ranked_5 rfl (lv_at hl 0 rfl) ?_
    refine va_get (D := D) (ci := 7) (v := .ref (ad 1)) (C := RX7) (T := TX7) (N := 7) hx hb hts hiX7 hown hK hP 0 wXg0 rfl 0 (by decide) (hts (.fieldLink RX7 12 "ArcGuesser" "net" "LArcGuesser$Net;") (List.mem_of_getElem? (i := 1) rfl)) (fun _ h9 => h9) rfl dX7_ranked_6 ?_
    refine w_calli (va_runVN (As := []) (rest := [.int p1]) ⟨hx, hb, hml, hown, hts⟩ (mtX6_candidateTotal l D ad cA A σ  _ hq) ⟨va_cnB 0 hts ggX7_ranked_X6_candidateTotal rfl rfl rfl (hN (.methodLinkNest RX7 119 yX6_candidateTotal "ArcGuesser") (List.mem_of_getElem? (i := 38) rfl)) (hts (.initialized RX6) (List.mem_of_getElem? (i := 4) rfl)) (by decide +kernel) ⟨Nat.le_of_ble_eq_true rfl, Nat.le_of_ble_eq_true rfl⟩, hts (.instanceMethod yX6_candidateTotal) (List.mem_of_getElem? (i := 3) rfl), hts (.selects RX6 yX6_candidateTotal yX6_candidateTotal) (List.mem_of_getElem? (i := 5) rfl)⟩ ⟨stW_blind nwX_ok, va_recv hK hP (ci := 6) (q0 := 1) rfl wXg1, stW_pass hA hS hN hK hP hD nwX_ok⟩ rfl rfl hl.1 rfl (lv_room (Nat.le_of_ble_eq_true rfl)) dX7_ranked_9 ⟨Nat.le_of_ble_eq_true rfl, Nat.le_of_ble_eq_true rfl⟩) hS (fun r1 σ1 H locs hq hP hD hS => ?_)
    refine lv_icmp_lt (tgt := 18) hx hb dX7_ranked_12 (by decide) (fun hc => ?_) (fun hc => ?_)
    · have hq := hq.1 hc
      refine lv_aload_n hx hb dX7_ranked_18 rfl (lv_at hl 0 rfl) ?_
      refine w_callv (va_runV (As := []) (rest := []) ⟨hx, hb, hml, hown, hts⟩ (mtX7_rankAll l D ad cA A σ1  _ hq) (cwV 0 hts gX7_ranked_X7_rankAll rfl rfl rfl (by decide +kernel) ⟨Nat.le_of_ble_eq_true rfl, Nat.le_of_ble_eq_true rfl⟩) ⟨stW_blind nwX_ok, va_recv hK hP (ci := 7) (q0 := 0) rfl wXg0, stW_pass hA hS hN hK hP hD nwX_ok⟩ rfl rfl hl.1 rfl (lv_room (Nat.le_of_ble_eq_true rfl)) dX7_ranked_19 ⟨Nat.le_of_ble_eq_true rfl, Nat.le_of_ble_eq_true rfl⟩) hS (fun σ2 H locs hq hP hD hS => ?_)
      refine lv_aload_n hx hb dX7_ranked_22 rfl (lv_at hl 0 rfl) ?_
      refine va_get (D := D) (ci := 7) (v := .ref (ad 14)) (C := RX7) (T := TX7) (N := 7) hx hb hts hiX7 hown hK hP 0 wXg0 rfl 3 (by decide) (hts (.fieldLink RX7 37 "ArcGuesser" "candidates" "LArcGuesser$Candidates;") (List.mem_of_getElem? (i := 2) rfl)) (fun _ h9 => h9) rfl dX7_ranked_23 ?_
      refine lv_iload_n hx hb dX7_ranked_26 rfl (lv_at hl 1 rfl) ?_
      refine w_calli (va_runVN (As := [.int p1]) (rest := []) ⟨hx, hb, hml, hown, hts⟩ (mtX1_pairAtPlace l D ad cA A σ2 p1 _ hq) ⟨va_cnB 1 hts ggX7_ranked_X1_pairAtPlace rfl rfl rfl (hN (.methodLinkNest RX7 156 yX1_pairAtPlace "ArcGuesser") (List.mem_of_getElem? (i := 43) rfl)) (hts (.initialized RX1) (List.mem_of_getElem? (i := 22) rfl)) (by decide +kernel) ⟨Nat.le_of_ble_eq_true rfl, Nat.le_of_ble_eq_true rfl⟩, hts (.instanceMethod yX1_pairAtPlace) (List.mem_of_getElem? (i := 121) rfl), hts (.selects RX1 yX1_pairAtPlace yX1_pairAtPlace) (List.mem_of_getElem? (i := 122) rfl)⟩ ⟨stW_blind nwX_ok, va_recv hK hP (ci := 1) (q0 := 14) rfl wXg14, stW_pass hA hS hN hK hP hD nwX_ok⟩ rfl rfl hl.1 rfl (lv_room (Nat.le_of_ble_eq_true rfl)) dX7_ranked_27 ⟨Nat.le_of_ble_eq_true rfl, Nat.le_of_ble_eq_true rfl⟩) hS (fun r3 σ3 H locs hq hP hD hS => ?_)
      refine lv_istore_n (lv' := [(2, .int r3), (0, .ref (ad 0)), (1, .int p1)]) hx hb dX7_ranked_30 rfl hl (by decide) rfl (fun ls hl => ?_)
      refine lv_bipush (v := (16 : Int32)) hx hb dX7_ranked_31 (by decide) ?_
      refine lv_aload_n hx hb dX7_ranked_33 rfl (lv_at hl 1 rfl) ?_
      refine va_get (D := D) (ci := 7) (v := .ref (ad 1)) (C := RX7) (T := TX7) (N := 7) hx hb hts hiX7 hown hK hP 0 wXg0 rfl 0 (by decide) (hts (.fieldLink RX7 12 "ArcGuesser" "net" "LArcGuesser$Net;") (List.mem_of_getElem? (i := 1) rfl)) (fun _ h9 => h9) rfl dX7_ranked_34 ?_
      refine va_getN (D := D) (ci := 6) (v := .ref (ad 2)) (C := RX6) (T := TX6) (N := 13) hx hb hts hiX6 hown hK hP 1 wXg1 rfl 4 (by decide) (va_Nw.use rfl (hN (.fieldLinkNest RX7 160 "ArcGuesser$Net" "from" "[I" "ArcGuesser") (List.mem_of_getElem? (i := 10) rfl))) (fun _ h9 => h9) rfl dX7_ranked_37 ?_
      refine lv_iload_n hx hb dX7_ranked_40 rfl (lv_at hl 0 rfl) ?_
      refine va_iald hx hb hK hP 2 0 wXg2 rfl hq.1 dX7_ranked_41 ?_
      have hq := hq.2
      refine lv_imul hx hb dX7_ranked_42 ?_
      refine lv_aload_n hx hb dX7_ranked_43 rfl (lv_at hl 1 rfl) ?_
      refine va_get (D := D) (ci := 7) (v := .ref (ad 1)) (C := RX7) (T := TX7) (N := 7) hx hb hts hiX7 hown hK hP 0 wXg0 rfl 0 (by decide) (hts (.fieldLink RX7 12 "ArcGuesser" "net" "LArcGuesser$Net;") (List.mem_of_getElem? (i := 1) rfl)) (fun _ h9 => h9) rfl dX7_ranked_44 ?_
      refine va_getN (D := D) (ci := 6) (v := .ref (ad 3)) (C := RX6) (T := TX6) (N := 13) hx hb hts hiX6 hown hK hP 1 wXg1 rfl 5 (by decide) (va_Nw.use rfl (hN (.fieldLinkNest RX7 163 "ArcGuesser$Net" "to" "[I" "ArcGuesser") (List.mem_of_getElem? (i := 11) rfl))) (fun _ h9 => h9) rfl dX7_ranked_47 ?_
      refine lv_iload_n hx hb dX7_ranked_50 rfl (lv_at hl 0 rfl) ?_
      refine va_iald hx hb hK hP 3 0 wXg3 rfl hq.1 dX7_ranked_51 ?_
      have hq := hq.2
      refine lv_iadd hx hb dX7_ranked_52 ?_
      exact W.iret (v := (((16 : Int32) * (σ3.1 2 (r3).toNatClampNeg)) + (σ3.1 3 (r3).toNatClampNeg))) hx hb hr (fun t ht hW => ⟨⟨(((16 : Int32) * (σ3.1 2 (r3).toNatClampNeg)) + (σ3.1 3 (r3).toNatClampNeg)), σ3, rfl, hq, by rw [ht]; exact hP, hD⟩, hS.F ht⟩) hS.2.2 dX7_ranked_53
    · have hq := hq.2 hc
      refine lv_bipush (v := (-2 : Int32)) hx hb dX7_ranked_15 (by decide) ?_
      exact W.iret (v := (-2 : Int32)) hx hb hr (fun t ht hW => ⟨⟨(-2 : Int32), σ1, rfl, hq, by rw [ht]; exact hP, hD⟩, hS.F ht⟩) hS.2.2 dX7_ranked_17
/-! ArcGuesser.sample(I)I -/
def X7_sample_wp (σ : Sto) (p1 : Int32) (Post : Int32 → Sto → Prop) : Prop :=
  (X1_gather_wp σ  (fun σ1 => (X1_canBeJudged_wp σ1  (fun r2 σ2 => ((¬ r2 = 0 → (X1_mixBy_wp σ2  (fun σ3 => (X2_startFrom_wp σ3 p1 (fun σ4 => (X1_halvesWonByDraws_wp σ4  (fun r5 σ5 => (X0_show_wp σ5 (r5).toInt64 ((2 : Int64) * ((σ5.1 14 2)).toInt64) (fun σ6 => (Post (1 : Int32) σ6)))))))))) ∧ (r2 = 0 → (Post (-3 : Int32) σ2)))))))
set_option maxHeartbeats 4000000 in
set_option maxRecDepth 100000 in
theorem mtX7_sample (l : Launch) (D : va_G) (ad : Nat → Nat) (cA : Nat → ClassId) (A : Nat → Prop) (σ : Sto) (p1 : Int32) (Post : Int32 → Sto → Prop) (hwp : X7_sample_wp σ p1 Post) : Met l yX7_sample wsX7_sample ({ frames := 6, cells := 0, slots := 0, locals := 138 }) (va_Pc [.ref (ad 0), .int p1] (stW D (tyX cA) nwX (wX ad cA) A σ)) (va_Qi Post (enW D (wX ad cA) A) A) 0 0 A := by
  refine Met.ofW (cc := cX7_sample) (maxL := 2) (ret := (some .int)) (by decide) rfl ?_
  intro p e s m args below meth c s₁ B hml hv
  obtain ⟨rfl, hA, hN, hP, hK, hD⟩ := hv
  have hx := B.exec
  have hb := B.bytes
  have hr := B.returns
  have hts := atoms_spec (ws := wsX7_sample) B.pre
  have hown : s.vm.findClass RX7 = some m.cls := findClass_of_methodNamed B.named
  have hlocks := B.notSynchronized
  have hiX1 : ∀ w ∈ wsX10, w ∈ wsX7_sample := by decide +kernel
  have hiX7 : ∀ w ∈ wsX70, w ∈ wsX7_sample := by decide +kernel
  have hS : va_S A s.heap s.heap [] := va_S.rf
  have hl := lv_entry ([.ref (ad 0), .int p1]) (n := 2) (Nat.le_of_ble_eq_true rfl)
  rw [lg_entry_eq]
  generalize (lg_sl ([.ref (ad 0), .int p1]) ++ List.replicate (2 - (lg_sl ([.ref (ad 0), .int p1])).length) Slot.unset).toArray = ls at hl ⊢
  have hl : lv_has ls 2 [(0, .ref (ad 0)), (1, .int p1)] := hl
  have hq := hwp
  unfold X7_sample_wp at hq
  refine lv_aload_n hx hb dX7_sample_0 rfl (lv_at hl 0 rfl) ?_
  refine va_get (D := D) (ci := 7) (v := .ref (ad 14)) (C := RX7) (T := TX7) (N := 7) hx hb hts hiX7 hown hK hP 0 wXg0 rfl 3 (by decide) (hts (.fieldLink RX7 37 "ArcGuesser" "candidates" "LArcGuesser$Candidates;") (List.mem_of_getElem? (i := 1) rfl)) (fun _ h9 => h9) rfl dX7_sample_1 ?_
  refine w_callv (va_runVN (As := []) (rest := []) ⟨hx, hb, hml, hown, hts⟩ (mtX1_gather l D ad cA A σ  _ hq) ⟨va_cnB 0 hts ggX7_sample_X1_gather rfl rfl rfl (hN (.methodLinkNest RX7 172 yX1_gather "ArcGuesser") (List.mem_of_getElem? (i := 46) rfl)) (hts (.initialized RX1) (List.mem_of_getElem? (i := 7) rfl)) (by decide +kernel) ⟨Nat.le_of_ble_eq_true rfl, Nat.le_of_ble_eq_true rfl⟩, hts (.instanceMethod yX1_gather) (List.mem_of_getElem? (i := 6) rfl), hts (.selects RX1 yX1_gather yX1_gather) (List.mem_of_getElem? (i := 8) rfl)⟩ ⟨stW_blind nwX_ok, va_recv hK hP (ci := 1) (q0 := 14) rfl wXg14, stW_pass hA hS hN hK hP hD nwX_ok⟩ rfl rfl hl.1 rfl (lv_room (Nat.le_of_ble_eq_true rfl)) dX7_sample_4 ⟨Nat.le_of_ble_eq_true rfl, Nat.le_of_ble_eq_true rfl⟩) hS (fun σ1 H locs hq hP hD hS => ?_)
  refine lv_aload_n hx hb dX7_sample_7 rfl (lv_at hl 0 rfl) ?_
  refine va_get (D := D) (ci := 7) (v := .ref (ad 14)) (C := RX7) (T := TX7) (N := 7) hx hb hts hiX7 hown hK hP 0 wXg0 rfl 3 (by decide) (hts (.fieldLink RX7 37 "ArcGuesser" "candidates" "LArcGuesser$Candidates;") (List.mem_of_getElem? (i := 1) rfl)) (fun _ h9 => h9) rfl dX7_sample_8 ?_
  refine w_calli (va_runVN (As := []) (rest := []) ⟨hx, hb, hml, hown, hts⟩ (mtX1_canBeJudged l D ad cA A σ1  _ hq) ⟨va_cnB 0 hts ggX7_sample_X1_canBeJudged rfl rfl rfl (hN (.methodLinkNest RX7 175 yX1_canBeJudged "ArcGuesser") (List.mem_of_getElem? (i := 47) rfl)) (hts (.initialized RX1) (List.mem_of_getElem? (i := 7) rfl)) (by decide +kernel) ⟨Nat.le_of_ble_eq_true rfl, Nat.le_of_ble_eq_true rfl⟩, hts (.instanceMethod yX1_canBeJudged) (List.mem_of_getElem? (i := 21) rfl), hts (.selects RX1 yX1_canBeJudged yX1_canBeJudged) (List.mem_of_getElem? (i := 22) rfl)⟩ ⟨stW_blind nwX_ok, va_recv hK hP (ci := 1) (q0 := 14) rfl wXg14, stW_pass hA hS hN hK hP hD nwX_ok⟩ rfl rfl hl.1 rfl (lv_room (Nat.le_of_ble_eq_true rfl)) dX7_sample_11 ⟨Nat.le_of_ble_eq_true rfl, Nat.le_of_ble_eq_true rfl⟩) hS (fun r2 σ2 H locs hq hP hD hS => ?_)
  refine lv_if_ne (tgt := 20) hx hb dX7_sample_14 (by decide) (fun hc => ?_) (fun hc => ?_)
  · have hq := hq.1 hc
    refine lv_aload_n hx hb dX7_sample_20 rfl (lv_at hl 0 rfl) ?_
    refine va_get (D := D) (ci := 7) (v := .ref (ad 14)) (C := RX7) (T := TX7) (N := 7) hx hb hts hiX7 hown hK hP 0 wXg0 rfl 3 (by decide) (hts (.fieldLink RX7 37 "ArcGuesser" "candidates" "LArcGuesser$Candidates;") (List.mem_of_getElem? (i := 1) rfl)) (fun _ h9 => h9) rfl dX7_sample_21 ?_
    refine lv_aload_n hx hb dX7_sample_24 rfl (lv_at hl 0 rfl) ?_
    refine va_get (D := D) (ci := 7) (v := .ref (ad 12)) (C := RX7) (T := TX7) (N := 7) hx hb hts hiX7 hown hK hP 0 wXg0 rfl 2 (by decide) (hts (.fieldLink RX7 30 "ArcGuesser" "mix" "LArcGuesser$Mix;") (List.mem_of_getElem? (i := 2) rfl)) (fun _ h9 => h9) rfl dX7_sample_25 ?_
    refine w_callv (va_runVN (As := [.ref (ad 12)]) (rest := []) ⟨hx, hb, hml, hown, hts⟩ (mtX1_mixBy l D ad cA A σ2  _ hq) ⟨va_cnB 1 hts ggX7_sample_X1_mixBy rfl rfl rfl (hN (.methodLinkNest RX7 179 yX1_mixBy "ArcGuesser") (List.mem_of_getElem? (i := 48) rfl)) (hts (.initialized RX1) (List.mem_of_getElem? (i := 7) rfl)) (by decide +kernel) ⟨Nat.le_of_ble_eq_true rfl, Nat.le_of_ble_eq_true rfl⟩, hts (.instanceMethod yX1_mixBy) (List.mem_of_getElem? (i := 24) rfl), hts (.selects RX1 yX1_mixBy yX1_mixBy) (List.mem_of_getElem? (i := 25) rfl)⟩ ⟨stW_blind nwX_ok, va_recv hK hP (ci := 1) (q0 := 14) rfl wXg14, stW_pass hA hS hN hK hP hD nwX_ok⟩ rfl rfl hl.1 rfl (lv_room (Nat.le_of_ble_eq_true rfl)) dX7_sample_28 ⟨Nat.le_of_ble_eq_true rfl, Nat.le_of_ble_eq_true rfl⟩) hS (fun σ3 H locs hq hP hD hS => ?_)
    refine lv_aload_n hx hb dX7_sample_31 rfl (lv_at hl 0 rfl) ?_
    refine va_get (D := D) (ci := 7) (v := .ref (ad 28)) (C := RX7) (T := TX7) (N := 7) hx hb hts hiX7 hown hK hP 0 wXg0 rfl 5 (by decide) (hts (.fieldLink RX7 51 "ArcGuesser" "draws" "LArcGuesser$Draws;") (List.mem_of_getElem? (i := 3) rfl)) (fun _ h9 => h9) rfl dX7_sample_32 ?_
    refine lv_iload_n hx hb dX7_sample_35 rfl (lv_at hl 1 rfl) ?_
    refine w_callv (va_runVN (As := [.int p1]) (rest := []) ⟨hx, hb, hml, hown, hts⟩ (mtX2_startFrom l D ad cA A σ3 p1 _ hq) ⟨va_cnB 1 hts ggX7_sample_X2_startFrom rfl rfl rfl (hN (.methodLinkNest RX7 109 yX2_startFrom "ArcGuesser") (List.mem_of_getElem? (i := 36) rfl)) (hts (.initialized RX2) (List.mem_of_getElem? (i := 107) rfl)) (by decide +kernel) ⟨Nat.le_of_ble_eq_true rfl, Nat.le_of_ble_eq_true rfl⟩, hts (.instanceMethod yX2_startFrom) (List.mem_of_getElem? (i := 106) rfl), hts (.selects RX2 yX2_startFrom yX2_startFrom) (List.mem_of_getElem? (i := 108) rfl)⟩ ⟨stW_blind nwX_ok, va_recv hK hP (ci := 2) (q0 := 28) rfl wXg28, stW_pass hA hS hN hK hP hD nwX_ok⟩ rfl rfl hl.1 rfl (lv_room (Nat.le_of_ble_eq_true rfl)) dX7_sample_36 ⟨Nat.le_of_ble_eq_true rfl, Nat.le_of_ble_eq_true rfl⟩) hS (fun σ4 H locs hq hP hD hS => ?_)
    refine lv_aload_n hx hb dX7_sample_39 rfl (lv_at hl 0 rfl) ?_
    refine va_get (D := D) (ci := 7) (v := .ref (ad 29)) (C := RX7) (T := TX7) (N := 7) hx hb hts hiX7 hown hK hP 0 wXg0 rfl 6 (by decide) (hts (.fieldLink RX7 58 "ArcGuesser" "board" "LArcGuesser$Board;") (List.mem_of_getElem? (i := 4) rfl)) (fun _ h9 => h9) rfl dX7_sample_40 ?_
    refine lv_aload_n hx hb dX7_sample_43 rfl (lv_at hl 0 rfl) ?_
    refine va_get (D := D) (ci := 7) (v := .ref (ad 14)) (C := RX7) (T := TX7) (N := 7) hx hb hts hiX7 hown hK hP 0 wXg0 rfl 3 (by decide) (hts (.fieldLink RX7 37 "ArcGuesser" "candidates" "LArcGuesser$Candidates;") (List.mem_of_getElem? (i := 1) rfl)) (fun _ h9 => h9) rfl dX7_sample_44 ?_
    refine lv_aload_n hx hb dX7_sample_47 rfl (lv_at hl 0 rfl) ?_
    refine va_get (D := D) (ci := 7) (v := .ref (ad 28)) (C := RX7) (T := TX7) (N := 7) hx hb hts hiX7 hown hK hP 0 wXg0 rfl 5 (by decide) (hts (.fieldLink RX7 51 "ArcGuesser" "draws" "LArcGuesser$Draws;") (List.mem_of_getElem? (i := 3) rfl)) (fun _ h9 => h9) rfl dX7_sample_48 ?_
    refine w_calli (va_runVN (As := [.ref (ad 28)]) (rest := [.ref (ad 29)]) ⟨hx, hb, hml, hown, hts⟩ (mtX1_halvesWonByDraws l D ad cA A σ4  _ hq) ⟨va_cnB 1 hts ggX7_sample_X1_halvesWonByDraws rfl rfl rfl (hN (.methodLinkNest RX7 189 yX1_halvesWonByDraws "ArcGuesser") (List.mem_of_getElem? (i := 51) rfl)) (hts (.initialized RX1) (List.mem_of_getElem? (i := 7) rfl)) (by decide +kernel) ⟨Nat.le_of_ble_eq_true rfl, Nat.le_of_ble_eq_true rfl⟩, hts (.instanceMethod yX1_halvesWonByDraws) (List.mem_of_getElem? (i := 111) rfl), hts (.selects RX1 yX1_halvesWonByDraws yX1_halvesWonByDraws) (List.mem_of_getElem? (i := 112) rfl)⟩ ⟨stW_blind nwX_ok, va_recv hK hP (ci := 1) (q0 := 14) rfl wXg14, stW_pass hA hS hN hK hP hD nwX_ok⟩ rfl rfl hl.1 rfl (lv_room (Nat.le_of_ble_eq_true rfl)) dX7_sample_51 ⟨Nat.le_of_ble_eq_true rfl, Nat.le_of_ble_eq_true rfl⟩) hS (fun r5 σ5 H locs hq hP hD hS => ?_)
    refine lv_i2l hx hb dX7_sample_54 rfl ?_
    refine lv_ldc2 (v := (2 : Int64)) hx hb hown (hts (.constantLong RX7 193 (2)) (List.mem_of_getElem? (i := 5) rfl)) dX7_sample_55 ?_
    refine lv_aload_n hx hb dX7_sample_58 rfl (lv_at hl 0 rfl) ?_
    refine va_get (D := D) (ci := 7) (v := .ref (ad 14)) (C := RX7) (T := TX7) (N := 7) hx hb hts hiX7 hown hK hP 0 wXg0 rfl 3 (by decide) (hts (.fieldLink RX7 37 "ArcGuesser" "candidates" "LArcGuesser$Candidates;") (List.mem_of_getElem? (i := 1) rfl)) (fun _ h9 => h9) rfl dX7_sample_59 ?_
    refine va_getN (D := D) (ci := 1) (v := .int (σ5.1 14 2)) (C := RX1) (T := TX1) (N := 9) hx hb hts hiX1 hown hK hP 14 wXg14 rfl 2 (by decide) (va_Nw.use rfl (hN (.fieldLinkNest RX7 195 "ArcGuesser$Candidates" "foundTotal" "I" "ArcGuesser") (List.mem_of_getElem? (i := 12) rfl))) (fun _ h9 => h9) rfl dX7_sample_62 ?_
    refine lv_i2l hx hb dX7_sample_65 rfl ?_
    refine lv_lmul hx hb dX7_sample_66 ?_
    refine w_callv (va_runVN (As := [.long (r5).toInt64, .long ((2 : Int64) * ((σ5.1 14 2)).toInt64)]) (rest := []) ⟨hx, hb, hml, hown, hts⟩ (mtX0_show l D ad cA A σ5 (r5).toInt64 ((2 : Int64) * ((σ5.1 14 2)).toInt64) _ hq) ⟨va_cnB 2 hts ggX7_sample_X0_show rfl rfl rfl (hN (.methodLinkNest RX7 142 yX0_show "ArcGuesser") (List.mem_of_getElem? (i := 42) rfl)) (hts (.initialized RX0) (List.mem_of_getElem? (i := 123) rfl)) (by decide +kernel) ⟨Nat.le_of_ble_eq_true rfl, Nat.le_of_ble_eq_true rfl⟩, hts (.instanceMethod yX0_show) (List.mem_of_getElem? (i := 122) rfl), hts (.selects RX0 yX0_show yX0_show) (List.mem_of_getElem? (i := 124) rfl)⟩ ⟨stW_blind nwX_ok, va_recv hK hP (ci := 0) (q0 := 29) rfl wXg29, stW_pass hA hS hN hK hP hD nwX_ok⟩ rfl rfl hl.1 rfl (lv_room (Nat.le_of_ble_eq_true rfl)) dX7_sample_67 ⟨Nat.le_of_ble_eq_true rfl, Nat.le_of_ble_eq_true rfl⟩) hS (fun σ6 H locs hq hP hD hS => ?_)
    refine lv_iconst (v := (1 : Int32)) hx hb dX7_sample_70 (by decide) ?_
    exact W.iret (v := (1 : Int32)) hx hb hr (fun t ht hW => ⟨⟨(1 : Int32), σ6, rfl, hq, by rw [ht]; exact hP, hD⟩, hS.F ht⟩) hS.2.2 dX7_sample_71
  · have hq := hq.2 hc
    refine lv_bipush (v := (-3 : Int32)) hx hb dX7_sample_17 (by decide) ?_
    exact W.iret (v := (-3 : Int32)) hx hb hr (fun t ht hW => ⟨⟨(-3 : Int32), σ2, rfl, hq, by rw [ht]; exact hP, hD⟩, hS.F ht⟩) hS.2.2 dX7_sample_19
/-! ArcGuesser.score(III)I -/
def X7_score_wp (σ : Sto) (p1 : Int32) (p2 : Int32) (p3 : Int32) (Post : Int32 → Sto → Prop) : Prop :=
  (X6_pairFor_wp σ p1 p2 (fun r1 σ1 => ((¬ r1 = (-1 : Int32) → (X7_isMeasure_wp σ1 p3 (fun r2 σ2 => ((¬ r2 = 0 → ((¬ p3 = (11 : Int32) → (X4_partsOf_wp σ2 p3 r1 (fun r3 σ3 => (X0_show_wp σ3 r3 (3226504881600 : Int64) (fun σ4 => (Post (1 : Int32) σ4)))))) ∧ (p3 = (11 : Int32) → (X5_mixOf_wp σ2 r1 (fun r5 σ5 => (X0_show_wp σ5 r5 (3226504881600 : Int64) (fun σ6 => (Post (1 : Int32) σ6)))))))) ∧ (r2 = 0 → ((p3 = (11 : Int32) → ((¬ p3 = (11 : Int32) → (X4_partsOf_wp σ2 p3 r1 (fun r7 σ7 => (X0_show_wp σ7 r7 (3226504881600 : Int64) (fun σ8 => (Post (1 : Int32) σ8)))))) ∧ (p3 = (11 : Int32) → (X5_mixOf_wp σ2 r1 (fun r9 σ9 => (X0_show_wp σ9 r9 (3226504881600 : Int64) (fun σ10 => (Post (1 : Int32) σ10)))))))) ∧ (¬ p3 = (11 : Int32) → (Post (-2 : Int32) σ2)))))))) ∧ (r1 = (-1 : Int32) → (Post (-1 : Int32) σ1)))))
set_option maxHeartbeats 4000000 in
set_option maxRecDepth 100000 in
theorem mtX7_score (l : Launch) (D : va_G) (ad : Nat → Nat) (cA : Nat → ClassId) (A : Nat → Prop) (σ : Sto) (p1 : Int32) (p2 : Int32) (p3 : Int32) (Post : Int32 → Sto → Prop) (hwp : X7_score_wp σ p1 p2 p3 Post) : Met l yX7_score wsX7_score ({ frames := 5, cells := 0, slots := 0, locals := 116 }) (va_Pc [.ref (ad 0), .int p1, .int p2, .int p3] (stW D (tyX cA) nwX (wX ad cA) A σ)) (va_Qi Post (enW D (wX ad cA) A) A) 0 0 A := by
  refine Met.ofW (cc := cX7_score) (maxL := 7) (ret := (some .int)) (by decide) rfl ?_
  intro p e s m args below meth c s₁ B hml hv
  obtain ⟨rfl, hA, hN, hP, hK, hD⟩ := hv
  have hx := B.exec
  have hb := B.bytes
  have hr := B.returns
  have hts := atoms_spec (ws := wsX7_score) B.pre
  have hown : s.vm.findClass RX7 = some m.cls := findClass_of_methodNamed B.named
  have hlocks := B.notSynchronized
  have hiX7 : ∀ w ∈ wsX70, w ∈ wsX7_score := by decide +kernel
  have hS : va_S A s.heap s.heap [] := va_S.rf
  have hl := lv_entry ([.ref (ad 0), .int p1, .int p2, .int p3]) (n := 7) (Nat.le_of_ble_eq_true rfl)
  rw [lg_entry_eq]
  generalize (lg_sl ([.ref (ad 0), .int p1, .int p2, .int p3]) ++ List.replicate (7 - (lg_sl ([.ref (ad 0), .int p1, .int p2, .int p3])).length) Slot.unset).toArray = ls at hl ⊢
  have hl : lv_has ls 7 [(0, .ref (ad 0)), (1, .int p1), (2, .int p2), (3, .int p3)] := hl
  have hq := hwp
  unfold X7_score_wp at hq
  refine lv_aload_n hx hb dX7_score_0 rfl (lv_at hl 0 rfl) ?_
  refine va_get (D := D) (ci := 7) (v := .ref (ad 1)) (C := RX7) (T := TX7) (N := 7) hx hb hts hiX7 hown hK hP 0 wXg0 rfl 0 (by decide) (hts (.fieldLink RX7 12 "ArcGuesser" "net" "LArcGuesser$Net;") (List.mem_of_getElem? (i := 1) rfl)) (fun _ h9 => h9) rfl dX7_score_1 ?_
  refine lv_iload_n hx hb dX7_score_4 rfl (lv_at hl 1 rfl) ?_
  refine lv_iload_n hx hb dX7_score_5 rfl (lv_at hl 2 rfl) ?_
  refine w_calli (va_runVN (As := [.int p1, .int p2]) (rest := []) ⟨hx, hb, hml, hown, hts⟩ (mtX6_pairFor l D ad cA A σ p1 p2 _ hq) ⟨va_cnB 2 hts ggX7_score_X6_pairFor rfl rfl rfl (hN (.methodLinkNest RX7 74 yX6_pairFor "ArcGuesser") (List.mem_of_getElem? (i := 31) rfl)) (hts (.initialized RX6) (List.mem_of_getElem? (i := 7) rfl)) (by decide +kernel) ⟨Nat.le_of_ble_eq_true rfl, Nat.le_of_ble_eq_true rfl⟩, hts (.instanceMethod yX6_pairFor) (List.mem_of_getElem? (i := 6) rfl), hts (.selects RX6 yX6_pairFor yX6_pairFor) (List.mem_of_getElem? (i := 8) rfl)⟩ ⟨stW_blind nwX_ok, va_recv hK hP (ci := 6) (q0 := 1) rfl wXg1, stW_pass hA hS hN hK hP hD nwX_ok⟩ rfl rfl hl.1 rfl (lv_room (Nat.le_of_ble_eq_true rfl)) dX7_score_6 ⟨Nat.le_of_ble_eq_true rfl, Nat.le_of_ble_eq_true rfl⟩) hS (fun r1 σ1 H locs hq hP hD hS => ?_)
  refine lv_istore (lv' := [(4, .int r1), (0, .ref (ad 0)), (1, .int p1), (2, .int p2), (3, .int p3)]) hx hb dX7_score_9 hl (by decide) rfl (fun ls hl => ?_)
  refine lv_iload hx hb dX7_score_11 (lv_at hl 0 rfl) ?_
  refine lv_iconst (v := (-1 : Int32)) hx hb dX7_score_13 (by decide) ?_
  refine lv_icmp_ne (tgt := 19) hx hb dX7_score_14 (by decide) (fun hc => ?_) (fun hc => ?_)
  · have hq := hq.1 hc
    refine lv_iload_n hx hb dX7_score_19 rfl (lv_at hl 4 rfl) ?_
    refine w_calli (va_runS (As := [.int p3]) (rest := []) ⟨hx, hb, hml, hown, hts⟩ (mtX7_isMeasure l D ad cA A σ1 p3 _ hq) (va_cwS 1 hts gX7_score_X7_isMeasure rfl rfl rfl (by decide +kernel) ⟨Nat.le_of_ble_eq_true rfl, Nat.le_of_ble_eq_true rfl⟩) ⟨stW_blind nwX_ok, stW_pass hA hS hN hK hP hD nwX_ok⟩ rfl rfl hl.1 rfl (lv_room (Nat.le_of_ble_eq_true rfl)) dX7_score_20 ⟨Nat.le_of_ble_eq_true rfl, Nat.le_of_ble_eq_true rfl⟩) hS (fun r2 σ2 H locs hq hP hD hS => ?_)
    refine lv_if_ne (tgt := 35) hx hb dX7_score_23 (by decide) (fun hc => ?_) (fun hc => ?_)
    · have hq := hq.1 hc
      refine lv_iload_n hx hb dX7_score_35 rfl (lv_at hl 4 rfl) ?_
      refine lv_bipush (v := (11 : Int32)) hx hb dX7_score_36 (by decide) ?_
      refine lv_icmp_ne (tgt := 53) hx hb dX7_score_38 (by decide) (fun hc => ?_) (fun hc => ?_)
      · have hq := hq.1 hc
        refine lv_aload_n hx hb dX7_score_53 rfl (lv_at hl 1 rfl) ?_
        refine va_get (D := D) (ci := 7) (v := .ref (ad 11)) (C := RX7) (T := TX7) (N := 7) hx hb hts hiX7 hown hK hP 0 wXg0 rfl 1 (by decide) (hts (.fieldLink RX7 21 "ArcGuesser" "measures" "LArcGuesser$Measures;") (List.mem_of_getElem? (i := 3) rfl)) (fun _ h9 => h9) rfl dX7_score_54 ?_
        refine lv_iload_n hx hb dX7_score_57 rfl (lv_at hl 4 rfl) ?_
        refine lv_iload hx hb dX7_score_58 (lv_at hl 0 rfl) ?_
        refine w_calll (va_runVN (As := [.int p3, .int r1]) (rest := []) ⟨hx, hb, hml, hown, hts⟩ (mtX4_partsOf l D ad cA A σ2 p3 r1 _ hq) ⟨va_cnB 2 hts ggX7_score_X4_partsOf rfl rfl rfl (hN (.methodLinkNest RX7 136 yX4_partsOf "ArcGuesser") (List.mem_of_getElem? (i := 41) rfl)) (hts (.initialized RX4) (List.mem_of_getElem? (i := 30) rfl)) (by decide +kernel) ⟨Nat.le_of_ble_eq_true rfl, Nat.le_of_ble_eq_true rfl⟩, hts (.instanceMethod yX4_partsOf) (List.mem_of_getElem? (i := 29) rfl), hts (.selects RX4 yX4_partsOf yX4_partsOf) (List.mem_of_getElem? (i := 31) rfl)⟩ ⟨stW_blind nwX_ok, va_recv hK hP (ci := 4) (q0 := 11) rfl wXg11, stW_pass hA hS hN hK hP hD nwX_ok⟩ rfl rfl hl.1 rfl (lv_room (Nat.le_of_ble_eq_true rfl)) dX7_score_60 ⟨Nat.le_of_ble_eq_true rfl, Nat.le_of_ble_eq_true rfl⟩) hS (fun r3 σ3 H locs hq hP hD hS => ?_)
        refine lv_lstore (lv' := [(5, .long r3), (4, .int r1), (0, .ref (ad 0)), (1, .int p1), (2, .int p2), (3, .int p3)]) hx hb dX7_score_63 hl (by decide) rfl (fun ls hl => ?_)
        refine lv_aload_n hx hb dX7_score_65 rfl (lv_at hl 2 rfl) ?_
        refine va_get (D := D) (ci := 7) (v := .ref (ad 29)) (C := RX7) (T := TX7) (N := 7) hx hb hts hiX7 hown hK hP 0 wXg0 rfl 6 (by decide) (hts (.fieldLink RX7 58 "ArcGuesser" "board" "LArcGuesser$Board;") (List.mem_of_getElem? (i := 4) rfl)) (fun _ h9 => h9) rfl dX7_score_66 ?_
        refine lv_lload hx hb dX7_score_69 (lv_at hl 0 rfl) ?_
        refine lv_ldc2 (v := (3226504881600 : Int64)) hx hb hown (hts (.constantLong RX7 140 (3226504881600)) (List.mem_of_getElem? (i := 5) rfl)) dX7_score_71 ?_
        refine w_callv (va_runVN (As := [.long r3, .long (3226504881600 : Int64)]) (rest := []) ⟨hx, hb, hml, hown, hts⟩ (mtX0_show l D ad cA A σ3 r3 (3226504881600 : Int64) _ hq) ⟨va_cnB 2 hts ggX7_score_X0_show rfl rfl rfl (hN (.methodLinkNest RX7 142 yX0_show "ArcGuesser") (List.mem_of_getElem? (i := 42) rfl)) (hts (.initialized RX0) (List.mem_of_getElem? (i := 100) rfl)) (by decide +kernel) ⟨Nat.le_of_ble_eq_true rfl, Nat.le_of_ble_eq_true rfl⟩, hts (.instanceMethod yX0_show) (List.mem_of_getElem? (i := 99) rfl), hts (.selects RX0 yX0_show yX0_show) (List.mem_of_getElem? (i := 101) rfl)⟩ ⟨stW_blind nwX_ok, va_recv hK hP (ci := 0) (q0 := 29) rfl wXg29, stW_pass hA hS hN hK hP hD nwX_ok⟩ rfl rfl hl.1 rfl (lv_room (Nat.le_of_ble_eq_true rfl)) dX7_score_74 ⟨Nat.le_of_ble_eq_true rfl, Nat.le_of_ble_eq_true rfl⟩) hS (fun σ4 H locs hq hP hD hS => ?_)
        refine lv_iconst (v := (1 : Int32)) hx hb dX7_score_77 (by decide) ?_
        exact W.iret (v := (1 : Int32)) hx hb hr (fun t ht hW => ⟨⟨(1 : Int32), σ4, rfl, hq, by rw [ht]; exact hP, hD⟩, hS.F ht⟩) hS.2.2 dX7_score_78
      · have hq := hq.2 hc
        refine lv_aload_n hx hb dX7_score_41 rfl (lv_at hl 1 rfl) ?_
        refine va_get (D := D) (ci := 7) (v := .ref (ad 12)) (C := RX7) (T := TX7) (N := 7) hx hb hts hiX7 hown hK hP 0 wXg0 rfl 2 (by decide) (hts (.fieldLink RX7 30 "ArcGuesser" "mix" "LArcGuesser$Mix;") (List.mem_of_getElem? (i := 2) rfl)) (fun _ h9 => h9) rfl dX7_score_42 ?_
        refine lv_iload hx hb dX7_score_45 (lv_at hl 0 rfl) ?_
        refine w_calll (va_runVN (As := [.int r1]) (rest := []) ⟨hx, hb, hml, hown, hts⟩ (mtX5_mixOf l D ad cA A σ2 r1 _ hq) ⟨va_cnB 1 hts ggX7_score_X5_mixOf rfl rfl rfl (hN (.methodLinkNest RX7 132 yX5_mixOf "ArcGuesser") (List.mem_of_getElem? (i := 40) rfl)) (hts (.initialized RX5) (List.mem_of_getElem? (i := 24) rfl)) (by decide +kernel) ⟨Nat.le_of_ble_eq_true rfl, Nat.le_of_ble_eq_true rfl⟩, hts (.instanceMethod yX5_mixOf) (List.mem_of_getElem? (i := 23) rfl), hts (.selects RX5 yX5_mixOf yX5_mixOf) (List.mem_of_getElem? (i := 25) rfl)⟩ ⟨stW_blind nwX_ok, va_recv hK hP (ci := 5) (q0 := 12) rfl wXg12, stW_pass hA hS hN hK hP hD nwX_ok⟩ rfl rfl hl.1 rfl (lv_room (Nat.le_of_ble_eq_true rfl)) dX7_score_47 ⟨Nat.le_of_ble_eq_true rfl, Nat.le_of_ble_eq_true rfl⟩) hS (fun r5 σ5 H locs hq hP hD hS => ?_)
        refine lv_goto (tgt := 63) hx hb dX7_score_50 (by decide) ?_
        refine lv_lstore (lv' := [(5, .long r5), (4, .int r1), (0, .ref (ad 0)), (1, .int p1), (2, .int p2), (3, .int p3)]) hx hb dX7_score_63 hl (by decide) rfl (fun ls hl => ?_)
        refine lv_aload_n hx hb dX7_score_65 rfl (lv_at hl 2 rfl) ?_
        refine va_get (D := D) (ci := 7) (v := .ref (ad 29)) (C := RX7) (T := TX7) (N := 7) hx hb hts hiX7 hown hK hP 0 wXg0 rfl 6 (by decide) (hts (.fieldLink RX7 58 "ArcGuesser" "board" "LArcGuesser$Board;") (List.mem_of_getElem? (i := 4) rfl)) (fun _ h9 => h9) rfl dX7_score_66 ?_
        refine lv_lload hx hb dX7_score_69 (lv_at hl 0 rfl) ?_
        refine lv_ldc2 (v := (3226504881600 : Int64)) hx hb hown (hts (.constantLong RX7 140 (3226504881600)) (List.mem_of_getElem? (i := 5) rfl)) dX7_score_71 ?_
        refine w_callv (va_runVN (As := [.long r5, .long (3226504881600 : Int64)]) (rest := []) ⟨hx, hb, hml, hown, hts⟩ (mtX0_show l D ad cA A σ5 r5 (3226504881600 : Int64) _ hq) ⟨va_cnB 2 hts ggX7_score_X0_show rfl rfl rfl (hN (.methodLinkNest RX7 142 yX0_show "ArcGuesser") (List.mem_of_getElem? (i := 42) rfl)) (hts (.initialized RX0) (List.mem_of_getElem? (i := 100) rfl)) (by decide +kernel) ⟨Nat.le_of_ble_eq_true rfl, Nat.le_of_ble_eq_true rfl⟩, hts (.instanceMethod yX0_show) (List.mem_of_getElem? (i := 99) rfl), hts (.selects RX0 yX0_show yX0_show) (List.mem_of_getElem? (i := 101) rfl)⟩ ⟨stW_blind nwX_ok, va_recv hK hP (ci := 0) (q0 := 29) rfl wXg29, stW_pass hA hS hN hK hP hD nwX_ok⟩ rfl rfl hl.1 rfl (lv_room (Nat.le_of_ble_eq_true rfl)) dX7_score_74 ⟨Nat.le_of_ble_eq_true rfl, Nat.le_of_ble_eq_true rfl⟩) hS (fun σ6 H locs hq hP hD hS => ?_)
        refine lv_iconst (v := (1 : Int32)) hx hb dX7_score_77 (by decide) ?_
        exact W.iret (v := (1 : Int32)) hx hb hr (fun t ht hW => ⟨⟨(1 : Int32), σ6, rfl, hq, by rw [ht]; exact hP, hD⟩, hS.F ht⟩) hS.2.2 dX7_score_78
    · have hq := hq.2 hc
      refine lv_iload_n hx hb dX7_score_26 rfl (lv_at hl 4 rfl) ?_
      refine lv_bipush (v := (11 : Int32)) hx hb dX7_score_27 (by decide) ?_
      refine lv_icmp_eq (tgt := 35) hx hb dX7_score_29 (by decide) (fun hc => ?_) (fun hc => ?_)
      · have hq := hq.1 hc
        refine lv_iload_n hx hb dX7_score_35 rfl (lv_at hl 4 rfl) ?_
        refine lv_bipush (v := (11 : Int32)) hx hb dX7_score_36 (by decide) ?_
        refine lv_icmp_ne (tgt := 53) hx hb dX7_score_38 (by decide) (fun hc => ?_) (fun hc => ?_)
        · have hq := hq.1 hc
          refine lv_aload_n hx hb dX7_score_53 rfl (lv_at hl 1 rfl) ?_
          refine va_get (D := D) (ci := 7) (v := .ref (ad 11)) (C := RX7) (T := TX7) (N := 7) hx hb hts hiX7 hown hK hP 0 wXg0 rfl 1 (by decide) (hts (.fieldLink RX7 21 "ArcGuesser" "measures" "LArcGuesser$Measures;") (List.mem_of_getElem? (i := 3) rfl)) (fun _ h9 => h9) rfl dX7_score_54 ?_
          refine lv_iload_n hx hb dX7_score_57 rfl (lv_at hl 4 rfl) ?_
          refine lv_iload hx hb dX7_score_58 (lv_at hl 0 rfl) ?_
          refine w_calll (va_runVN (As := [.int p3, .int r1]) (rest := []) ⟨hx, hb, hml, hown, hts⟩ (mtX4_partsOf l D ad cA A σ2 p3 r1 _ hq) ⟨va_cnB 2 hts ggX7_score_X4_partsOf rfl rfl rfl (hN (.methodLinkNest RX7 136 yX4_partsOf "ArcGuesser") (List.mem_of_getElem? (i := 41) rfl)) (hts (.initialized RX4) (List.mem_of_getElem? (i := 30) rfl)) (by decide +kernel) ⟨Nat.le_of_ble_eq_true rfl, Nat.le_of_ble_eq_true rfl⟩, hts (.instanceMethod yX4_partsOf) (List.mem_of_getElem? (i := 29) rfl), hts (.selects RX4 yX4_partsOf yX4_partsOf) (List.mem_of_getElem? (i := 31) rfl)⟩ ⟨stW_blind nwX_ok, va_recv hK hP (ci := 4) (q0 := 11) rfl wXg11, stW_pass hA hS hN hK hP hD nwX_ok⟩ rfl rfl hl.1 rfl (lv_room (Nat.le_of_ble_eq_true rfl)) dX7_score_60 ⟨Nat.le_of_ble_eq_true rfl, Nat.le_of_ble_eq_true rfl⟩) hS (fun r7 σ7 H locs hq hP hD hS => ?_)
          refine lv_lstore (lv' := [(5, .long r7), (4, .int r1), (0, .ref (ad 0)), (1, .int p1), (2, .int p2), (3, .int p3)]) hx hb dX7_score_63 hl (by decide) rfl (fun ls hl => ?_)
          refine lv_aload_n hx hb dX7_score_65 rfl (lv_at hl 2 rfl) ?_
          refine va_get (D := D) (ci := 7) (v := .ref (ad 29)) (C := RX7) (T := TX7) (N := 7) hx hb hts hiX7 hown hK hP 0 wXg0 rfl 6 (by decide) (hts (.fieldLink RX7 58 "ArcGuesser" "board" "LArcGuesser$Board;") (List.mem_of_getElem? (i := 4) rfl)) (fun _ h9 => h9) rfl dX7_score_66 ?_
          refine lv_lload hx hb dX7_score_69 (lv_at hl 0 rfl) ?_
          refine lv_ldc2 (v := (3226504881600 : Int64)) hx hb hown (hts (.constantLong RX7 140 (3226504881600)) (List.mem_of_getElem? (i := 5) rfl)) dX7_score_71 ?_
          refine w_callv (va_runVN (As := [.long r7, .long (3226504881600 : Int64)]) (rest := []) ⟨hx, hb, hml, hown, hts⟩ (mtX0_show l D ad cA A σ7 r7 (3226504881600 : Int64) _ hq) ⟨va_cnB 2 hts ggX7_score_X0_show rfl rfl rfl (hN (.methodLinkNest RX7 142 yX0_show "ArcGuesser") (List.mem_of_getElem? (i := 42) rfl)) (hts (.initialized RX0) (List.mem_of_getElem? (i := 100) rfl)) (by decide +kernel) ⟨Nat.le_of_ble_eq_true rfl, Nat.le_of_ble_eq_true rfl⟩, hts (.instanceMethod yX0_show) (List.mem_of_getElem? (i := 99) rfl), hts (.selects RX0 yX0_show yX0_show) (List.mem_of_getElem? (i := 101) rfl)⟩ ⟨stW_blind nwX_ok, va_recv hK hP (ci := 0) (q0 := 29) rfl wXg29, stW_pass hA hS hN hK hP hD nwX_ok⟩ rfl rfl hl.1 rfl (lv_room (Nat.le_of_ble_eq_true rfl)) dX7_score_74 ⟨Nat.le_of_ble_eq_true rfl, Nat.le_of_ble_eq_true rfl⟩) hS (fun σ8 H locs hq hP hD hS => ?_)
          refine lv_iconst (v := (1 : Int32)) hx hb dX7_score_77 (by decide) ?_
          exact W.iret (v := (1 : Int32)) hx hb hr (fun t ht hW => ⟨⟨(1 : Int32), σ8, rfl, hq, by rw [ht]; exact hP, hD⟩, hS.F ht⟩) hS.2.2 dX7_score_78
        · have hq := hq.2 hc
          refine lv_aload_n hx hb dX7_score_41 rfl (lv_at hl 1 rfl) ?_
          refine va_get (D := D) (ci := 7) (v := .ref (ad 12)) (C := RX7) (T := TX7) (N := 7) hx hb hts hiX7 hown hK hP 0 wXg0 rfl 2 (by decide) (hts (.fieldLink RX7 30 "ArcGuesser" "mix" "LArcGuesser$Mix;") (List.mem_of_getElem? (i := 2) rfl)) (fun _ h9 => h9) rfl dX7_score_42 ?_
          refine lv_iload hx hb dX7_score_45 (lv_at hl 0 rfl) ?_
          refine w_calll (va_runVN (As := [.int r1]) (rest := []) ⟨hx, hb, hml, hown, hts⟩ (mtX5_mixOf l D ad cA A σ2 r1 _ hq) ⟨va_cnB 1 hts ggX7_score_X5_mixOf rfl rfl rfl (hN (.methodLinkNest RX7 132 yX5_mixOf "ArcGuesser") (List.mem_of_getElem? (i := 40) rfl)) (hts (.initialized RX5) (List.mem_of_getElem? (i := 24) rfl)) (by decide +kernel) ⟨Nat.le_of_ble_eq_true rfl, Nat.le_of_ble_eq_true rfl⟩, hts (.instanceMethod yX5_mixOf) (List.mem_of_getElem? (i := 23) rfl), hts (.selects RX5 yX5_mixOf yX5_mixOf) (List.mem_of_getElem? (i := 25) rfl)⟩ ⟨stW_blind nwX_ok, va_recv hK hP (ci := 5) (q0 := 12) rfl wXg12, stW_pass hA hS hN hK hP hD nwX_ok⟩ rfl rfl hl.1 rfl (lv_room (Nat.le_of_ble_eq_true rfl)) dX7_score_47 ⟨Nat.le_of_ble_eq_true rfl, Nat.le_of_ble_eq_true rfl⟩) hS (fun r9 σ9 H locs hq hP hD hS => ?_)
          refine lv_goto (tgt := 63) hx hb dX7_score_50 (by decide) ?_
          refine lv_lstore (lv' := [(5, .long r9), (4, .int r1), (0, .ref (ad 0)), (1, .int p1), (2, .int p2), (3, .int p3)]) hx hb dX7_score_63 hl (by decide) rfl (fun ls hl => ?_)
          refine lv_aload_n hx hb dX7_score_65 rfl (lv_at hl 2 rfl) ?_
          refine va_get (D := D) (ci := 7) (v := .ref (ad 29)) (C := RX7) (T := TX7) (N := 7) hx hb hts hiX7 hown hK hP 0 wXg0 rfl 6 (by decide) (hts (.fieldLink RX7 58 "ArcGuesser" "board" "LArcGuesser$Board;") (List.mem_of_getElem? (i := 4) rfl)) (fun _ h9 => h9) rfl dX7_score_66 ?_
          refine lv_lload hx hb dX7_score_69 (lv_at hl 0 rfl) ?_
          refine lv_ldc2 (v := (3226504881600 : Int64)) hx hb hown (hts (.constantLong RX7 140 (3226504881600)) (List.mem_of_getElem? (i := 5) rfl)) dX7_score_71 ?_
          refine w_callv (va_runVN (As := [.long r9, .long (3226504881600 : Int64)]) (rest := []) ⟨hx, hb, hml, hown, hts⟩ (mtX0_show l D ad cA A σ9 r9 (3226504881600 : Int64) _ hq) ⟨va_cnB 2 hts ggX7_score_X0_show rfl rfl rfl (hN (.methodLinkNest RX7 142 yX0_show "ArcGuesser") (List.mem_of_getElem? (i := 42) rfl)) (hts (.initialized RX0) (List.mem_of_getElem? (i := 100) rfl)) (by decide +kernel) ⟨Nat.le_of_ble_eq_true rfl, Nat.le_of_ble_eq_true rfl⟩, hts (.instanceMethod yX0_show) (List.mem_of_getElem? (i := 99) rfl), hts (.selects RX0 yX0_show yX0_show) (List.mem_of_getElem? (i := 101) rfl)⟩ ⟨stW_blind nwX_ok, va_recv hK hP (ci := 0) (q0 := 29) rfl wXg29, stW_pass hA hS hN hK hP hD nwX_ok⟩ rfl rfl hl.1 rfl (lv_room (Nat.le_of_ble_eq_true rfl)) dX7_score_74 ⟨Nat.le_of_ble_eq_true rfl, Nat.le_of_ble_eq_true rfl⟩) hS (fun σ10 H locs hq hP hD hS => ?_)
          refine lv_iconst (v := (1 : Int32)) hx hb dX7_score_77 (by decide) ?_
          exact W.iret (v := (1 : Int32)) hx hb hr (fun t ht hW => ⟨⟨(1 : Int32), σ10, rfl, hq, by rw [ht]; exact hP, hD⟩, hS.F ht⟩) hS.2.2 dX7_score_78
      · have hq := hq.2 hc
        refine lv_bipush (v := (-2 : Int32)) hx hb dX7_score_32 (by decide) ?_
        exact W.iret (v := (-2 : Int32)) hx hb hr (fun t ht hW => ⟨⟨(-2 : Int32), σ2, rfl, hq, by rw [ht]; exact hP, hD⟩, hS.F ht⟩) hS.2.2 dX7_score_34
  · have hq := hq.2 hc
    refine lv_iconst (v := (-1 : Int32)) hx hb dX7_score_17 (by decide) ?_
    exact W.iret (v := (-1 : Int32)) hx hb hr (fun t ht hW => ⟨⟨(-1 : Int32), σ1, rfl, hq, by rw [ht]; exact hP, hD⟩, hS.F ht⟩) hS.2.2 dX7_score_18
/-! ArcGuesser.share()I -/
def X7_share_wp (σ : Sto)  (Post : Int32 → Sto → Prop) : Prop :=
  (X1_gather_wp σ  (fun σ1 => (X1_canBeJudged_wp σ1  (fun r2 σ2 => ((¬ r2 = 0 → (X1_mixBy_wp σ2  (fun σ3 => (X1_halvesWon_wp σ3  (fun r4 σ4 => (X1_halvesInAll_wp σ4  (fun r5 σ5 => (X0_show_wp σ5 (r4).toInt64 (r5).toInt64 (fun σ6 => (Post (1 : Int32) σ6)))))))))) ∧ (r2 = 0 → (Post (-3 : Int32) σ2)))))))
set_option maxHeartbeats 4000000 in
set_option maxRecDepth 100000 in
theorem mtX7_share (l : Launch) (D : va_G) (ad : Nat → Nat) (cA : Nat → ClassId) (A : Nat → Prop) (σ : Sto)  (Post : Int32 → Sto → Prop) (hwp : X7_share_wp σ  Post) : Met l yX7_share wsX7_share ({ frames := 6, cells := 0, slots := 0, locals := 138 }) (va_Pc [.ref (ad 0)] (stW D (tyX cA) nwX (wX ad cA) A σ)) (va_Qi Post (enW D (wX ad cA) A) A) 0 0 A := by
  refine Met.ofW (cc := cX7_share) (maxL := 1) (ret := (some .int)) (by decide) rfl ?_
  intro p e s m args below meth c s₁ B hml hv
  obtain ⟨rfl, hA, hN, hP, hK, hD⟩ := hv
  have hx := B.exec
  have hb := B.bytes
  have hr := B.returns
  have hts := atoms_spec (ws := wsX7_share) B.pre
  have hown : s.vm.findClass RX7 = some m.cls := findClass_of_methodNamed B.named
  have hlocks := B.notSynchronized
  have hiX7 : ∀ w ∈ wsX70, w ∈ wsX7_share := by decide +kernel
  have hS : va_S A s.heap s.heap [] := va_S.rf
  have hl := lv_entry ([.ref (ad 0)]) (n := 1) (Nat.le_of_ble_eq_true rfl)
  rw [lg_entry_eq]
  generalize (lg_sl ([.ref (ad 0)]) ++ List.replicate (1 - (lg_sl ([.ref (ad 0)])).length) Slot.unset).toArray = ls at hl ⊢
  have hl : lv_has ls 1 [(0, .ref (ad 0))] := hl
  have hq := hwp
  unfold X7_share_wp at hq
  refine lv_aload_n hx hb dX7_share_0 rfl (lv_at hl 0 rfl) ?_
  refine va_get (D := D) (ci := 7) (v := .ref (ad 14)) (C := RX7) (T := TX7) (N := 7) hx hb hts hiX7 hown hK hP 0 wXg0 rfl 3 (by decide) (hts (.fieldLink RX7 37 "ArcGuesser" "candidates" "LArcGuesser$Candidates;") (List.mem_of_getElem? (i := 1) rfl)) (fun _ h9 => h9) rfl dX7_share_1 ?_
  refine w_callv (va_runVN (As := []) (rest := []) ⟨hx, hb, hml, hown, hts⟩ (mtX1_gather l D ad cA A σ  _ hq) ⟨va_cnB 0 hts ggX7_share_X1_gather rfl rfl rfl (hN (.methodLinkNest RX7 172 yX1_gather "ArcGuesser") (List.mem_of_getElem? (i := 46) rfl)) (hts (.initialized RX1) (List.mem_of_getElem? (i := 5) rfl)) (by decide +kernel) ⟨Nat.le_of_ble_eq_true rfl, Nat.le_of_ble_eq_true rfl⟩, hts (.instanceMethod yX1_gather) (List.mem_of_getElem? (i := 4) rfl), hts (.selects RX1 yX1_gather yX1_gather) (List.mem_of_getElem? (i := 6) rfl)⟩ ⟨stW_blind nwX_ok, va_recv hK hP (ci := 1) (q0 := 14) rfl wXg14, stW_pass hA hS hN hK hP hD nwX_ok⟩ rfl rfl hl.1 rfl (lv_room (Nat.le_of_ble_eq_true rfl)) dX7_share_4 ⟨Nat.le_of_ble_eq_true rfl, Nat.le_of_ble_eq_true rfl⟩) hS (fun σ1 H locs hq hP hD hS => ?_)
  refine lv_aload_n hx hb dX7_share_7 rfl (lv_at hl 0 rfl) ?_
  refine va_get (D := D) (ci := 7) (v := .ref (ad 14)) (C := RX7) (T := TX7) (N := 7) hx hb hts hiX7 hown hK hP 0 wXg0 rfl 3 (by decide) (hts (.fieldLink RX7 37 "ArcGuesser" "candidates" "LArcGuesser$Candidates;") (List.mem_of_getElem? (i := 1) rfl)) (fun _ h9 => h9) rfl dX7_share_8 ?_
  refine w_calli (va_runVN (As := []) (rest := []) ⟨hx, hb, hml, hown, hts⟩ (mtX1_canBeJudged l D ad cA A σ1  _ hq) ⟨va_cnB 0 hts ggX7_share_X1_canBeJudged rfl rfl rfl (hN (.methodLinkNest RX7 175 yX1_canBeJudged "ArcGuesser") (List.mem_of_getElem? (i := 47) rfl)) (hts (.initialized RX1) (List.mem_of_getElem? (i := 5) rfl)) (by decide +kernel) ⟨Nat.le_of_ble_eq_true rfl, Nat.le_of_ble_eq_true rfl⟩, hts (.instanceMethod yX1_canBeJudged) (List.mem_of_getElem? (i := 19) rfl), hts (.selects RX1 yX1_canBeJudged yX1_canBeJudged) (List.mem_of_getElem? (i := 20) rfl)⟩ ⟨stW_blind nwX_ok, va_recv hK hP (ci := 1) (q0 := 14) rfl wXg14, stW_pass hA hS hN hK hP hD nwX_ok⟩ rfl rfl hl.1 rfl (lv_room (Nat.le_of_ble_eq_true rfl)) dX7_share_11 ⟨Nat.le_of_ble_eq_true rfl, Nat.le_of_ble_eq_true rfl⟩) hS (fun r2 σ2 H locs hq hP hD hS => ?_)
  refine lv_if_ne (tgt := 20) hx hb dX7_share_14 (by decide) (fun hc => ?_) (fun hc => ?_)
  · have hq := hq.1 hc
    refine lv_aload_n hx hb dX7_share_20 rfl (lv_at hl 0 rfl) ?_
    refine va_get (D := D) (ci := 7) (v := .ref (ad 14)) (C := RX7) (T := TX7) (N := 7) hx hb hts hiX7 hown hK hP 0 wXg0 rfl 3 (by decide) (hts (.fieldLink RX7 37 "ArcGuesser" "candidates" "LArcGuesser$Candidates;") (List.mem_of_getElem? (i := 1) rfl)) (fun _ h9 => h9) rfl dX7_share_21 ?_
    refine lv_aload_n hx hb dX7_share_24 rfl (lv_at hl 0 rfl) ?_
    refine va_get (D := D) (ci := 7) (v := .ref (ad 12)) (C := RX7) (T := TX7) (N := 7) hx hb hts hiX7 hown hK hP 0 wXg0 rfl 2 (by decide) (hts (.fieldLink RX7 30 "ArcGuesser" "mix" "LArcGuesser$Mix;") (List.mem_of_getElem? (i := 2) rfl)) (fun _ h9 => h9) rfl dX7_share_25 ?_
    refine w_callv (va_runVN (As := [.ref (ad 12)]) (rest := []) ⟨hx, hb, hml, hown, hts⟩ (mtX1_mixBy l D ad cA A σ2  _ hq) ⟨va_cnB 1 hts ggX7_share_X1_mixBy rfl rfl rfl (hN (.methodLinkNest RX7 179 yX1_mixBy "ArcGuesser") (List.mem_of_getElem? (i := 48) rfl)) (hts (.initialized RX1) (List.mem_of_getElem? (i := 5) rfl)) (by decide +kernel) ⟨Nat.le_of_ble_eq_true rfl, Nat.le_of_ble_eq_true rfl⟩, hts (.instanceMethod yX1_mixBy) (List.mem_of_getElem? (i := 22) rfl), hts (.selects RX1 yX1_mixBy yX1_mixBy) (List.mem_of_getElem? (i := 23) rfl)⟩ ⟨stW_blind nwX_ok, va_recv hK hP (ci := 1) (q0 := 14) rfl wXg14, stW_pass hA hS hN hK hP hD nwX_ok⟩ rfl rfl hl.1 rfl (lv_room (Nat.le_of_ble_eq_true rfl)) dX7_share_28 ⟨Nat.le_of_ble_eq_true rfl, Nat.le_of_ble_eq_true rfl⟩) hS (fun σ3 H locs hq hP hD hS => ?_)
    refine lv_aload_n hx hb dX7_share_31 rfl (lv_at hl 0 rfl) ?_
    refine va_get (D := D) (ci := 7) (v := .ref (ad 29)) (C := RX7) (T := TX7) (N := 7) hx hb hts hiX7 hown hK hP 0 wXg0 rfl 6 (by decide) (hts (.fieldLink RX7 58 "ArcGuesser" "board" "LArcGuesser$Board;") (List.mem_of_getElem? (i := 3) rfl)) (fun _ h9 => h9) rfl dX7_share_32 ?_
    refine lv_aload_n hx hb dX7_share_35 rfl (lv_at hl 0 rfl) ?_
    refine va_get (D := D) (ci := 7) (v := .ref (ad 14)) (C := RX7) (T := TX7) (N := 7) hx hb hts hiX7 hown hK hP 0 wXg0 rfl 3 (by decide) (hts (.fieldLink RX7 37 "ArcGuesser" "candidates" "LArcGuesser$Candidates;") (List.mem_of_getElem? (i := 1) rfl)) (fun _ h9 => h9) rfl dX7_share_36 ?_
    refine w_calli (va_runVN (As := []) (rest := [.ref (ad 29)]) ⟨hx, hb, hml, hown, hts⟩ (mtX1_halvesWon l D ad cA A σ3  _ hq) ⟨va_cnB 0 hts ggX7_share_X1_halvesWon rfl rfl rfl (hN (.methodLinkNest RX7 183 yX1_halvesWon "ArcGuesser") (List.mem_of_getElem? (i := 49) rfl)) (hts (.initialized RX1) (List.mem_of_getElem? (i := 5) rfl)) (by decide +kernel) ⟨Nat.le_of_ble_eq_true rfl, Nat.le_of_ble_eq_true rfl⟩, hts (.instanceMethod yX1_halvesWon) (List.mem_of_getElem? (i := 104) rfl), hts (.selects RX1 yX1_halvesWon yX1_halvesWon) (List.mem_of_getElem? (i := 105) rfl)⟩ ⟨stW_blind nwX_ok, va_recv hK hP (ci := 1) (q0 := 14) rfl wXg14, stW_pass hA hS hN hK hP hD nwX_ok⟩ rfl rfl hl.1 rfl (lv_room (Nat.le_of_ble_eq_true rfl)) dX7_share_39 ⟨Nat.le_of_ble_eq_true rfl, Nat.le_of_ble_eq_true rfl⟩) hS (fun r4 σ4 H locs hq hP hD hS => ?_)
    refine lv_i2l hx hb dX7_share_42 rfl ?_
    refine lv_aload_n hx hb dX7_share_43 rfl (lv_at hl 0 rfl) ?_
    refine va_get (D := D) (ci := 7) (v := .ref (ad 14)) (C := RX7) (T := TX7) (N := 7) hx hb hts hiX7 hown hK hP 0 wXg0 rfl 3 (by decide) (hts (.fieldLink RX7 37 "ArcGuesser" "candidates" "LArcGuesser$Candidates;") (List.mem_of_getElem? (i := 1) rfl)) (fun _ h9 => h9) rfl dX7_share_44 ?_
    refine w_calli (va_runVN (As := []) (rest := [.long (r4).toInt64, .ref (ad 29)]) ⟨hx, hb, hml, hown, hts⟩ (mtX1_halvesInAll l D ad cA A σ4  _ hq) ⟨va_cnB 0 hts ggX7_share_X1_halvesInAll rfl rfl rfl (hN (.methodLinkNest RX7 186 yX1_halvesInAll "ArcGuesser") (List.mem_of_getElem? (i := 50) rfl)) (hts (.initialized RX1) (List.mem_of_getElem? (i := 5) rfl)) (by decide +kernel) ⟨Nat.le_of_ble_eq_true rfl, Nat.le_of_ble_eq_true rfl⟩, hts (.instanceMethod yX1_halvesInAll) (List.mem_of_getElem? (i := 110) rfl), hts (.selects RX1 yX1_halvesInAll yX1_halvesInAll) (List.mem_of_getElem? (i := 111) rfl)⟩ ⟨stW_blind nwX_ok, va_recv hK hP (ci := 1) (q0 := 14) rfl wXg14, stW_pass hA hS hN hK hP hD nwX_ok⟩ rfl rfl hl.1 rfl (lv_room (Nat.le_of_ble_eq_true rfl)) dX7_share_47 ⟨Nat.le_of_ble_eq_true rfl, Nat.le_of_ble_eq_true rfl⟩) hS (fun r5 σ5 H locs hq hP hD hS => ?_)
    refine lv_i2l hx hb dX7_share_50 rfl ?_
    refine w_callv (va_runVN (As := [.long (r4).toInt64, .long (r5).toInt64]) (rest := []) ⟨hx, hb, hml, hown, hts⟩ (mtX0_show l D ad cA A σ5 (r4).toInt64 (r5).toInt64 _ hq) ⟨va_cnB 2 hts ggX7_share_X0_show rfl rfl rfl (hN (.methodLinkNest RX7 142 yX0_show "ArcGuesser") (List.mem_of_getElem? (i := 42) rfl)) (hts (.initialized RX0) (List.mem_of_getElem? (i := 114) rfl)) (by decide +kernel) ⟨Nat.le_of_ble_eq_true rfl, Nat.le_of_ble_eq_true rfl⟩, hts (.instanceMethod yX0_show) (List.mem_of_getElem? (i := 113) rfl), hts (.selects RX0 yX0_show yX0_show) (List.mem_of_getElem? (i := 115) rfl)⟩ ⟨stW_blind nwX_ok, va_recv hK hP (ci := 0) (q0 := 29) rfl wXg29, stW_pass hA hS hN hK hP hD nwX_ok⟩ rfl rfl hl.1 rfl (lv_room (Nat.le_of_ble_eq_true rfl)) dX7_share_51 ⟨Nat.le_of_ble_eq_true rfl, Nat.le_of_ble_eq_true rfl⟩) hS (fun σ6 H locs hq hP hD hS => ?_)
    refine lv_iconst (v := (1 : Int32)) hx hb dX7_share_54 (by decide) ?_
    exact W.iret (v := (1 : Int32)) hx hb hr (fun t ht hW => ⟨⟨(1 : Int32), σ6, rfl, hq, by rw [ht]; exact hP, hD⟩, hS.F ht⟩) hS.2.2 dX7_share_55
  · have hq := hq.2 hc
    refine lv_bipush (v := (-3 : Int32)) hx hb dX7_share_17 (by decide) ?_
    exact W.iret (v := (-3 : Int32)) hx hb hr (fun t ht hW => ⟨⟨(-3 : Int32), σ2, rfl, hq, by rw [ht]; exact hP, hD⟩, hS.F ht⟩) hS.2.2 dX7_share_19
/-! ArcGuesser.since(I)I -/
def X7_since_b2 (p1 : Int32) (K2 : Sto → Int32 → Prop) (Post : Int32 → Sto → Prop) (σ : Sto) (v2 : Int32) : Prop :=
  (((σ.1 1 3) ≤ v2 → (X6_hiddenArcs_wp σ  (fun r1 σ1 => (Post r1 σ1)))) ∧ (¬ (σ.1 1 3) ≤ v2 → (vp_in v2 132 ∧ (vp_in (σ.1 6 (v2).toNatClampNeg) 132 ∧ (((σ.1 5 ((σ.1 6 (v2).toNatClampNeg)).toNatClampNeg) < p1 → (X6_setHidden_wp σ (σ.1 6 (v2).toNatClampNeg) (0 : Int32) (fun σ2 => (K2 σ2 (v2 + (1 : Int32)))))) ∧ (¬ (σ.1 5 ((σ.1 6 (v2).toNatClampNeg)).toNatClampNeg) < p1 → (X6_setHidden_wp σ (σ.1 6 (v2).toNatClampNeg) (1 : Int32) (fun σ3 => (K2 σ3 (v2 + (1 : Int32)))))))))))
def X7_since_wp (σ : Sto) (p1 : Int32) (Post : Int32 → Sto → Prop) : Prop := ∀ (K2 : Sto → Int32 → Prop), (∀ (σ : Sto) (v2 : Int32), X7_since_b2 p1 K2 Post σ v2 → K2 σ v2) → 
  (K2 σ (0 : Int32))
set_option maxHeartbeats 4000000 in
set_option maxRecDepth 100000 in
theorem mtX7_since (l : Launch) (D : va_G) (ad : Nat → Nat) (cA : Nat → ClassId) (A : Nat → Prop) (σ : Sto) (p1 : Int32) (Post : Int32 → Sto → Prop) (hwp : X7_since_wp σ p1 Post) : Met l yX7_since wsX7_since ({ frames := 2, cells := 0, slots := 0, locals := 47 }) (va_Pc [.ref (ad 0), .int p1] (stW D (tyX cA) nwX (wX ad cA) A σ)) (va_Qi Post (enW D (wX ad cA) A) A) 0 0 A := by
  refine Met.ofW (cc := cX7_since) (maxL := 4) (ret := (some .int)) (by decide) rfl ?_
  intro p e s m args below meth c s₁ B hml hv
  obtain ⟨rfl, hA, hN, hP, hK, hD⟩ := hv
  have hx := B.exec
  have hb := B.bytes
  have hr := B.returns
  have hts := atoms_spec (ws := wsX7_since) B.pre
  have hown : s.vm.findClass RX7 = some m.cls := findClass_of_methodNamed B.named
  have hlocks := B.notSynchronized
  have hiX6 : ∀ w ∈ wsX60, w ∈ wsX7_since := by decide +kernel
  have hiX7 : ∀ w ∈ wsX70, w ∈ wsX7_since := by decide +kernel
  have hS : va_S A s.heap s.heap [] := va_S.rf
  have hl := lv_entry ([.ref (ad 0), .int p1]) (n := 4) (Nat.le_of_ble_eq_true rfl)
  rw [lg_entry_eq]
  generalize (lg_sl ([.ref (ad 0), .int p1]) ++ List.replicate (4 - (lg_sl ([.ref (ad 0), .int p1])).length) Slot.unset).toArray = ls at hl ⊢
  have hl : lv_has ls 4 [(0, .ref (ad 0)), (1, .int p1)] := hl
  obtain ⟨K2, hK2⟩ : ∃ K : Sto → Int32 → Prop, K = fun (σ : Sto) (v2 : Int32) => ∀ (H : Heap) (locs : List Loc) (ls : Array Slot), va_P D vwCl ((wX ad cA) σ) H → va_D A ((wX ad cA) σ) → va_S A s.heap H locs → lv_has ls 4 [(0, .ref (ad 0)), (1, .int p1), (2, .int v2)] → W p l e (headSpec wsX7_since ({ frames := 2, cells := 0, slots := 0, locals := 47 })).room s m ([.ref (ad 0), .int p1] : List Value).toArray below meth c H locs 0 0 (MQ below (va_Qi Post (enW D (wX ad cA) A) A) ([.ref (ad 0), .int p1] : List Value).toArray s 0 0 A) (F0 m 2 ls []) := ⟨_, rfl⟩
  have hk2 : ∀ (σ : Sto) (v2 : Int32), X7_since_b2 p1 K2 Post σ v2 → K2 σ v2 := by
    intro σ v2 hq
    rw [hK2]
    intro H locs ls hP hD hS hl
    unfold X7_since_b2 at hq
    refine lv_iload_n hx hb dX7_since_2 rfl (lv_at hl 2 rfl) ?_
    refine lv_aload_n hx hb dX7_since_3 rfl (lv_at hl 0 rfl) ?_
    refine va_get (D := D) (ci := 7) (v := .ref (ad 1)) (C := RX7) (T := TX7) (N := 7) hx hb hts hiX7 hown hK hP 0 wXg0 rfl 0 (by decide) (hts (.fieldLink RX7 12 "ArcGuesser" "net" "LArcGuesser$Net;") (List.mem_of_getElem? (i := 1) rfl)) (fun _ h9 => h9) rfl dX7_since_4 ?_
    refine va_getN (D := D) (ci := 6) (v := .int (σ.1 1 3)) (C := RX6) (T := TX6) (N := 13) hx hb hts hiX6 hown hK hP 1 wXg1 rfl 3 (by decide) (va_Nw.use rfl (hN (.fieldLinkNest RX7 85 "ArcGuesser$Net" "arcTotal" "I" "ArcGuesser") (List.mem_of_getElem? (i := 2) rfl))) (fun _ h9 => h9) rfl dX7_since_7 ?_
    refine lv_icmp_ge (tgt := 55) hx hb dX7_since_10 (by decide) (fun hc => ?_) (fun hc => ?_)
    · have hq := hq.1 hc
      refine lv_aload_n hx hb dX7_since_55 rfl (lv_at hl 0 rfl) ?_
      refine va_get (D := D) (ci := 7) (v := .ref (ad 1)) (C := RX7) (T := TX7) (N := 7) hx hb hts hiX7 hown hK hP 0 wXg0 rfl 0 (by decide) (hts (.fieldLink RX7 12 "ArcGuesser" "net" "LArcGuesser$Net;") (List.mem_of_getElem? (i := 1) rfl)) (fun _ h9 => h9) rfl dX7_since_56 ?_
      refine w_calli (va_runVN (As := []) (rest := []) ⟨hx, hb, hml, hown, hts⟩ (mtX6_hiddenArcs l D ad cA A σ  _ hq) ⟨va_cnB 0 hts ggX7_since_X6_hiddenArcs rfl rfl rfl (hN (.methodLinkNest RX7 105 yX6_hiddenArcs "ArcGuesser") (List.mem_of_getElem? (i := 35) rfl)) (hts (.initialized RX6) (List.mem_of_getElem? (i := 3) rfl)) (by decide +kernel) ⟨Nat.le_of_ble_eq_true rfl, Nat.le_of_ble_eq_true rfl⟩, hts (.instanceMethod yX6_hiddenArcs) (List.mem_of_getElem? (i := 16) rfl), hts (.selects RX6 yX6_hiddenArcs yX6_hiddenArcs) (List.mem_of_getElem? (i := 17) rfl)⟩ ⟨stW_blind nwX_ok, va_recv hK hP (ci := 6) (q0 := 1) rfl wXg1, stW_pass hA hS hN hK hP hD nwX_ok⟩ rfl rfl hl.1 rfl (lv_room (Nat.le_of_ble_eq_true rfl)) dX7_since_59 ⟨Nat.le_of_ble_eq_true rfl, Nat.le_of_ble_eq_true rfl⟩) hS (fun r1 σ1 H locs hq hP hD hS => ?_)
      exact W.iret (v := r1) hx hb hr (fun t ht hW => ⟨⟨r1, σ1, rfl, hq, by rw [ht]; exact hP, hD⟩, hS.F ht⟩) hS.2.2 dX7_since_62
    · have hq := hq.2 hc
      refine lv_aload_n hx hb dX7_since_13 rfl (lv_at hl 0 rfl) ?_
      refine va_get (D := D) (ci := 7) (v := .ref (ad 1)) (C := RX7) (T := TX7) (N := 7) hx hb hts hiX7 hown hK hP 0 wXg0 rfl 0 (by decide) (hts (.fieldLink RX7 12 "ArcGuesser" "net" "LArcGuesser$Net;") (List.mem_of_getElem? (i := 1) rfl)) (fun _ h9 => h9) rfl dX7_since_14 ?_
      refine va_getN (D := D) (ci := 6) (v := .ref (ad 6)) (C := RX6) (T := TX6) (N := 13) hx hb hts hiX6 hown hK hP 1 wXg1 rfl 8 (by decide) (va_Nw.use rfl (hN (.fieldLinkNest RX7 99 "ArcGuesser$Net" "arcPairs" "[I" "ArcGuesser") (List.mem_of_getElem? (i := 4) rfl))) (fun _ h9 => h9) rfl dX7_since_17 ?_
      refine lv_iload_n hx hb dX7_since_20 rfl (lv_at hl 2 rfl) ?_
      refine va_iald hx hb hK hP 6 0 wXg6 rfl hq.1 dX7_since_21 ?_
      have hq := hq.2
      refine lv_istore_n (lv' := [(3, .int (σ.1 6 (v2).toNatClampNeg)), (0, .ref (ad 0)), (1, .int p1), (2, .int v2)]) hx hb dX7_since_22 rfl hl (by decide) rfl (fun ls hl => ?_)
      refine lv_aload_n hx hb dX7_since_23 rfl (lv_at hl 1 rfl) ?_
      refine va_get (D := D) (ci := 7) (v := .ref (ad 1)) (C := RX7) (T := TX7) (N := 7) hx hb hts hiX7 hown hK hP 0 wXg0 rfl 0 (by decide) (hts (.fieldLink RX7 12 "ArcGuesser" "net" "LArcGuesser$Net;") (List.mem_of_getElem? (i := 1) rfl)) (fun _ h9 => h9) rfl dX7_since_24 ?_
      refine lv_iload_n hx hb dX7_since_27 rfl (lv_at hl 0 rfl) ?_
      refine lv_aload_n hx hb dX7_since_28 rfl (lv_at hl 1 rfl) ?_
      refine va_get (D := D) (ci := 7) (v := .ref (ad 1)) (C := RX7) (T := TX7) (N := 7) hx hb hts hiX7 hown hK hP 0 wXg0 rfl 0 (by decide) (hts (.fieldLink RX7 12 "ArcGuesser" "net" "LArcGuesser$Net;") (List.mem_of_getElem? (i := 1) rfl)) (fun _ h9 => h9) rfl dX7_since_29 ?_
      refine va_getN (D := D) (ci := 6) (v := .ref (ad 5)) (C := RX6) (T := TX6) (N := 13) hx hb hts hiX6 hown hK hP 1 wXg1 rfl 7 (by decide) (va_Nw.use rfl (hN (.fieldLinkNest RX7 102 "ArcGuesser$Net" "times" "[I" "ArcGuesser") (List.mem_of_getElem? (i := 5) rfl))) (fun _ h9 => h9) rfl dX7_since_32 ?_
      refine lv_iload_n hx hb dX7_since_35 rfl (lv_at hl 0 rfl) ?_
      refine va_iald hx hb hK hP 5 0 wXg5 rfl hq.1 dX7_since_36 ?_
      have hq := hq.2
      refine lv_iload_n hx hb dX7_since_37 rfl (lv_at hl 2 rfl) ?_
      refine lv_icmp_lt (tgt := 45) hx hb dX7_since_38 (by decide) (fun hc => ?_) (fun hc => ?_)
      · have hq := hq.1 hc
        refine lv_iconst (v := (0 : Int32)) hx hb dX7_since_45 (by decide) ?_
        refine w_callv (va_runVN (As := [.int (σ.1 6 (v2).toNatClampNeg), .int (0 : Int32)]) (rest := []) ⟨hx, hb, hml, hown, hts⟩ (mtX6_setHidden l D ad cA A σ (σ.1 6 (v2).toNatClampNeg) (0 : Int32) _ hq) ⟨va_cnB 2 hts ggX7_since_X6_setHidden rfl rfl rfl (hN (.methodLinkNest RX7 95 yX6_setHidden "ArcGuesser") (List.mem_of_getElem? (i := 34) rfl)) (hts (.initialized RX6) (List.mem_of_getElem? (i := 3) rfl)) (by decide +kernel) ⟨Nat.le_of_ble_eq_true rfl, Nat.le_of_ble_eq_true rfl⟩, hts (.instanceMethod yX6_setHidden) (List.mem_of_getElem? (i := 2) rfl), hts (.selects RX6 yX6_setHidden yX6_setHidden) (List.mem_of_getElem? (i := 4) rfl)⟩ ⟨stW_blind nwX_ok, va_recv hK hP (ci := 6) (q0 := 1) rfl wXg1, stW_pass hA hS hN hK hP hD nwX_ok⟩ rfl rfl hl.1 rfl (lv_room (Nat.le_of_ble_eq_true rfl)) dX7_since_46 ⟨Nat.le_of_ble_eq_true rfl, Nat.le_of_ble_eq_true rfl⟩) hS (fun σ2 H locs hq hP hD hS => ?_)
        refine lv_iinc (v := (v2 + (1 : Int32))) (lv' := [(2, .int (v2 + (1 : Int32))), (3, .int (σ.1 6 (v2).toNatClampNeg)), (0, .ref (ad 0)), (1, .int p1)]) hx hb dX7_since_49 hl (k := 3) rfl (by rfl) (by decide) rfl (fun ls hl => ?_)
        refine lv_goto (tgt := 2) hx hb dX7_since_52 (by decide) ?_
        rw [hK2] at hq
        exact hq _ _ _ hP hD hS (lv_sub hl [2, 3, 0] rfl)
      · have hq := hq.2 hc
        refine lv_iconst (v := (1 : Int32)) hx hb dX7_since_41 (by decide) ?_
        refine lv_goto (tgt := 46) hx hb dX7_since_42 (by decide) ?_
        refine w_callv (va_runVN (As := [.int (σ.1 6 (v2).toNatClampNeg), .int (1 : Int32)]) (rest := []) ⟨hx, hb, hml, hown, hts⟩ (mtX6_setHidden l D ad cA A σ (σ.1 6 (v2).toNatClampNeg) (1 : Int32) _ hq) ⟨va_cnB 2 hts ggX7_since_X6_setHidden rfl rfl rfl (hN (.methodLinkNest RX7 95 yX6_setHidden "ArcGuesser") (List.mem_of_getElem? (i := 34) rfl)) (hts (.initialized RX6) (List.mem_of_getElem? (i := 3) rfl)) (by decide +kernel) ⟨Nat.le_of_ble_eq_true rfl, Nat.le_of_ble_eq_true rfl⟩, hts (.instanceMethod yX6_setHidden) (List.mem_of_getElem? (i := 2) rfl), hts (.selects RX6 yX6_setHidden yX6_setHidden) (List.mem_of_getElem? (i := 4) rfl)⟩ ⟨stW_blind nwX_ok, va_recv hK hP (ci := 6) (q0 := 1) rfl wXg1, stW_pass hA hS hN hK hP hD nwX_ok⟩ rfl rfl hl.1 rfl (lv_room (Nat.le_of_ble_eq_true rfl)) dX7_since_46 ⟨Nat.le_of_ble_eq_true rfl, Nat.le_of_ble_eq_true rfl⟩) hS (fun σ3 H locs hq hP hD hS => ?_)
        refine lv_iinc (v := (v2 + (1 : Int32))) (lv' := [(2, .int (v2 + (1 : Int32))), (3, .int (σ.1 6 (v2).toNatClampNeg)), (0, .ref (ad 0)), (1, .int p1)]) hx hb dX7_since_49 hl (k := 3) rfl (by rfl) (by decide) rfl (fun ls hl => ?_)
        refine lv_goto (tgt := 2) hx hb dX7_since_52 (by decide) ?_
        rw [hK2] at hq
        exact hq _ _ _ hP hD hS (lv_sub hl [2, 3, 0] rfl)
  have hq := hwp K2 hk2
  refine lv_iconst (v := (0 : Int32)) hx hb dX7_since_0 (by decide) ?_
  refine lv_istore_n (lv' := [(2, .int (0 : Int32)), (0, .ref (ad 0)), (1, .int p1)]) hx hb dX7_since_1 rfl hl (by decide) rfl (fun ls hl => ?_)
  rw [hK2] at hq
  exact hq _ _ _ hP hD hS (lv_sub hl [1, 2, 0] rfl)
/-! ArcGuesser.split(III)I -/
def X7_split_b35 (p1 : Int32) (p2 : Int32) (p3 : Int32) (K35 : Sto → Int32 → Prop) (Post : Int32 → Sto → Prop) (σ : Sto) (v4 : Int32) : Prop :=
  (((σ.1 1 3) ≤ v4 → (X6_hiddenArcs_wp σ  (fun r1 σ1 => (Post r1 σ1)))) ∧ (¬ (σ.1 1 3) ≤ v4 → (vp_in v4 132 ∧ (X2_next_wp σ  (fun r2 σ2 => ((¬ p2 = 0) ∧ ((¬ (r2 - r2 / p2 * p2) = p3 → (X6_setHidden_wp σ2 (σ.1 6 (v4).toNatClampNeg) (0 : Int32) (fun σ3 => (K35 σ3 (v4 + (1 : Int32)))))) ∧ ((r2 - r2 / p2 * p2) = p3 → (X6_setHidden_wp σ2 (σ.1 6 (v4).toNatClampNeg) (1 : Int32) (fun σ4 => (K35 σ4 (v4 + (1 : Int32)))))))))))))
def X7_split_wp (σ : Sto) (p1 : Int32) (p2 : Int32) (p3 : Int32) (Post : Int32 → Sto → Prop) : Prop := ∀ (K35 : Sto → Int32 → Prop), (∀ (σ : Sto) (v4 : Int32), X7_split_b35 p1 p2 p3 K35 Post σ v4 → K35 σ v4) → 
  (X7_isWithin_wp σ p2 (1 : Int32) (20 : Int32) (fun r1 σ1 => ((r1 = 0 → (Post (-2 : Int32) σ1)) ∧ (¬ r1 = 0 → (X7_isWithin_wp σ1 p3 (0 : Int32) (p2 - (1 : Int32)) (fun r2 σ2 => ((¬ r2 = 0 → (X2_startFrom_wp σ2 p1 (fun σ3 => (K35 σ3 (0 : Int32))))) ∧ (r2 = 0 → (Post (-2 : Int32) σ2)))))))))
set_option maxHeartbeats 4000000 in
set_option maxRecDepth 100000 in
theorem mtX7_split (l : Launch) (D : va_G) (ad : Nat → Nat) (cA : Nat → ClassId) (A : Nat → Prop) (σ : Sto) (p1 : Int32) (p2 : Int32) (p3 : Int32) (Post : Int32 → Sto → Prop) (hwp : X7_split_wp σ p1 p2 p3 Post) : Met l yX7_split wsX7_split ({ frames := 2, cells := 0, slots := 0, locals := 47 }) (va_Pc [.ref (ad 0), .int p1, .int p2, .int p3] (stW D (tyX cA) nwX (wX ad cA) A σ)) (va_Qi Post (enW D (wX ad cA) A) A) 0 0 A := by
  refine Met.ofW (cc := cX7_split) (maxL := 5) (ret := (some .int)) (by decide) rfl ?_
  intro p e s m args below meth c s₁ B hml hv
  obtain ⟨rfl, hA, hN, hP, hK, hD⟩ := hv
  have hx := B.exec
  have hb := B.bytes
  have hr := B.returns
  have hts := atoms_spec (ws := wsX7_split) B.pre
  have hown : s.vm.findClass RX7 = some m.cls := findClass_of_methodNamed B.named
  have hlocks := B.notSynchronized
  have hiX6 : ∀ w ∈ wsX60, w ∈ wsX7_split := by decide +kernel
  have hiX7 : ∀ w ∈ wsX70, w ∈ wsX7_split := by decide +kernel
  have hS : va_S A s.heap s.heap [] := va_S.rf
  have hl := lv_entry ([.ref (ad 0), .int p1, .int p2, .int p3]) (n := 5) (Nat.le_of_ble_eq_true rfl)
  rw [lg_entry_eq]
  generalize (lg_sl ([.ref (ad 0), .int p1, .int p2, .int p3]) ++ List.replicate (5 - (lg_sl ([.ref (ad 0), .int p1, .int p2, .int p3])).length) Slot.unset).toArray = ls at hl ⊢
  have hl : lv_has ls 5 [(0, .ref (ad 0)), (1, .int p1), (2, .int p2), (3, .int p3)] := hl
  obtain ⟨K35, hK35⟩ : ∃ K : Sto → Int32 → Prop, K = fun (σ : Sto) (v4 : Int32) => ∀ (H : Heap) (locs : List Loc) (ls : Array Slot), va_P D vwCl ((wX ad cA) σ) H → va_D A ((wX ad cA) σ) → va_S A s.heap H locs → lv_has ls 5 [(0, .ref (ad 0)), (2, .int p2), (3, .int p3), (4, .int v4)] → W p l e (headSpec wsX7_split ({ frames := 2, cells := 0, slots := 0, locals := 47 })).room s m ([.ref (ad 0), .int p1, .int p2, .int p3] : List Value).toArray below meth c H locs 0 0 (MQ below (va_Qi Post (enW D (wX ad cA) A) A) ([.ref (ad 0), .int p1, .int p2, .int p3] : List Value).toArray s 0 0 A) (F0 m 35 ls []) := ⟨_, rfl⟩
  have hk35 : ∀ (σ : Sto) (v4 : Int32), X7_split_b35 p1 p2 p3 K35 Post σ v4 → K35 σ v4 := by
    intro σ v4 hq
    rw [hK35]
    intro H locs ls hP hD hS hl
    unfold X7_split_b35 at hq
    refine lv_iload hx hb dX7_split_35 (lv_at hl 3 rfl) ?_
    refine lv_aload_n hx hb dX7_split_37 rfl (lv_at hl 0 rfl) ?_
    refine va_get (D := D) (ci := 7) (v := .ref (ad 1)) (C := RX7) (T := TX7) (N := 7) hx hb hts hiX7 hown hK hP 0 wXg0 rfl 0 (by decide) (hts (.fieldLink RX7 12 "ArcGuesser" "net" "LArcGuesser$Net;") (List.mem_of_getElem? (i := 2) rfl)) (fun _ h9 => h9) rfl dX7_split_38 ?_
    refine va_getN (D := D) (ci := 6) (v := .int (σ.1 1 3)) (C := RX6) (T := TX6) (N := 13) hx hb hts hiX6 hown hK hP 1 wXg1 rfl 3 (by decide) (va_Nw.use rfl (hN (.fieldLinkNest RX7 85 "ArcGuesser$Net" "arcTotal" "I" "ArcGuesser") (List.mem_of_getElem? (i := 2) rfl))) (fun _ h9 => h9) rfl dX7_split_41 ?_
    refine lv_icmp_ge (tgt := 88) hx hb dX7_split_44 (by decide) (fun hc => ?_) (fun hc => ?_)
    · have hq := hq.1 hc
      refine lv_aload_n hx hb dX7_split_88 rfl (lv_at hl 0 rfl) ?_
      refine va_get (D := D) (ci := 7) (v := .ref (ad 1)) (C := RX7) (T := TX7) (N := 7) hx hb hts hiX7 hown hK hP 0 wXg0 rfl 0 (by decide) (hts (.fieldLink RX7 12 "ArcGuesser" "net" "LArcGuesser$Net;") (List.mem_of_getElem? (i := 2) rfl)) (fun _ h9 => h9) rfl dX7_split_89 ?_
      refine w_calli (va_runVN (As := []) (rest := []) ⟨hx, hb, hml, hown, hts⟩ (mtX6_hiddenArcs l D ad cA A σ  _ hq) ⟨va_cnB 0 hts ggX7_split_X6_hiddenArcs rfl rfl rfl (hN (.methodLinkNest RX7 105 yX6_hiddenArcs "ArcGuesser") (List.mem_of_getElem? (i := 35) rfl)) (hts (.initialized RX6) (List.mem_of_getElem? (i := 18) rfl)) (by decide +kernel) ⟨Nat.le_of_ble_eq_true rfl, Nat.le_of_ble_eq_true rfl⟩, hts (.instanceMethod yX6_hiddenArcs) (List.mem_of_getElem? (i := 31) rfl), hts (.selects RX6 yX6_hiddenArcs yX6_hiddenArcs) (List.mem_of_getElem? (i := 32) rfl)⟩ ⟨stW_blind nwX_ok, va_recv hK hP (ci := 6) (q0 := 1) rfl wXg1, stW_pass hA hS hN hK hP hD nwX_ok⟩ rfl rfl hl.1 rfl (lv_room (Nat.le_of_ble_eq_true rfl)) dX7_split_92 ⟨Nat.le_of_ble_eq_true rfl, Nat.le_of_ble_eq_true rfl⟩) hS (fun r1 σ1 H locs hq hP hD hS => ?_)
      exact W.iret (v := r1) hx hb hr (fun t ht hW => ⟨⟨r1, σ1, rfl, hq, by rw [ht]; exact hP, hD⟩, hS.F ht⟩) hS.2.2 dX7_split_95
    · have hq := hq.2 hc
      refine lv_aload_n hx hb dX7_split_47 rfl (lv_at hl 0 rfl) ?_
      refine va_get (D := D) (ci := 7) (v := .ref (ad 1)) (C := RX7) (T := TX7) (N := 7) hx hb hts hiX7 hown hK hP 0 wXg0 rfl 0 (by decide) (hts (.fieldLink RX7 12 "ArcGuesser" "net" "LArcGuesser$Net;") (List.mem_of_getElem? (i := 2) rfl)) (fun _ h9 => h9) rfl dX7_split_48 ?_
      refine lv_aload_n hx hb dX7_split_51 rfl (lv_at hl 0 rfl) ?_
      refine va_get (D := D) (ci := 7) (v := .ref (ad 1)) (C := RX7) (T := TX7) (N := 7) hx hb hts hiX7 hown hK hP 0 wXg0 rfl 0 (by decide) (hts (.fieldLink RX7 12 "ArcGuesser" "net" "LArcGuesser$Net;") (List.mem_of_getElem? (i := 2) rfl)) (fun _ h9 => h9) rfl dX7_split_52 ?_
      refine va_getN (D := D) (ci := 6) (v := .ref (ad 6)) (C := RX6) (T := TX6) (N := 13) hx hb hts hiX6 hown hK hP 1 wXg1 rfl 8 (by decide) (va_Nw.use rfl (hN (.fieldLinkNest RX7 99 "ArcGuesser$Net" "arcPairs" "[I" "ArcGuesser") (List.mem_of_getElem? (i := 4) rfl))) (fun _ h9 => h9) rfl dX7_split_55 ?_
      refine lv_iload hx hb dX7_split_58 (lv_at hl 3 rfl) ?_
      refine va_iald hx hb hK hP 6 0 wXg6 rfl hq.1 dX7_split_60 ?_
      have hq := hq.2
      refine lv_aload_n hx hb dX7_split_61 rfl (lv_at hl 0 rfl) ?_
      refine va_get (D := D) (ci := 7) (v := .ref (ad 28)) (C := RX7) (T := TX7) (N := 7) hx hb hts hiX7 hown hK hP 0 wXg0 rfl 5 (by decide) (hts (.fieldLink RX7 51 "ArcGuesser" "draws" "LArcGuesser$Draws;") (List.mem_of_getElem? (i := 1) rfl)) (fun _ h9 => h9) rfl dX7_split_62 ?_
      refine w_calli (va_runVN (As := []) (rest := [.int (σ.1 6 (v4).toNatClampNeg), .ref (ad 1)]) ⟨hx, hb, hml, hown, hts⟩ (mtX2_next l D ad cA A σ  _ hq) ⟨va_cnB 0 hts ggX7_split_X2_next rfl rfl rfl (hN (.methodLinkNest RX7 113 yX2_next "ArcGuesser") (List.mem_of_getElem? (i := 37) rfl)) (hts (.initialized RX2) (List.mem_of_getElem? (i := 8) rfl)) (by decide +kernel) ⟨Nat.le_of_ble_eq_true rfl, Nat.le_of_ble_eq_true rfl⟩, hts (.instanceMethod yX2_next) (List.mem_of_getElem? (i := 12) rfl), hts (.selects RX2 yX2_next yX2_next) (List.mem_of_getElem? (i := 13) rfl)⟩ ⟨stW_blind nwX_ok, va_recv hK hP (ci := 2) (q0 := 28) rfl wXg28, stW_pass hA hS hN hK hP hD nwX_ok⟩ rfl rfl hl.1 rfl (lv_room (Nat.le_of_ble_eq_true rfl)) dX7_split_65 ⟨Nat.le_of_ble_eq_true rfl, Nat.le_of_ble_eq_true rfl⟩) hS (fun r2 σ2 H locs hq hP hD hS => ?_)
      refine lv_iload_n hx hb dX7_split_68 rfl (lv_at hl 1 rfl) ?_
      refine lv_irem hx hb dX7_split_69 hq.1 ?_
      have hq := hq.2
      refine lv_iload_n hx hb dX7_split_70 rfl (lv_at hl 2 rfl) ?_
      refine lv_icmp_ne (tgt := 78) hx hb dX7_split_71 (by decide) (fun hc => ?_) (fun hc => ?_)
      · have hq := hq.1 hc
        refine lv_iconst (v := (0 : Int32)) hx hb dX7_split_78 (by decide) ?_
        refine w_callv (va_runVN (As := [.int (σ.1 6 (v4).toNatClampNeg), .int (0 : Int32)]) (rest := []) ⟨hx, hb, hml, hown, hts⟩ (mtX6_setHidden l D ad cA A σ2 (σ.1 6 (v4).toNatClampNeg) (0 : Int32) _ hq) ⟨va_cnB 2 hts ggX7_split_X6_setHidden rfl rfl rfl (hN (.methodLinkNest RX7 95 yX6_setHidden "ArcGuesser") (List.mem_of_getElem? (i := 34) rfl)) (hts (.initialized RX6) (List.mem_of_getElem? (i := 18) rfl)) (by decide +kernel) ⟨Nat.le_of_ble_eq_true rfl, Nat.le_of_ble_eq_true rfl⟩, hts (.instanceMethod yX6_setHidden) (List.mem_of_getElem? (i := 17) rfl), hts (.selects RX6 yX6_setHidden yX6_setHidden) (List.mem_of_getElem? (i := 19) rfl)⟩ ⟨stW_blind nwX_ok, va_recv hK hP (ci := 6) (q0 := 1) rfl wXg1, stW_pass hA hS hN hK hP hD nwX_ok⟩ rfl rfl hl.1 rfl (lv_room (Nat.le_of_ble_eq_true rfl)) dX7_split_79 ⟨Nat.le_of_ble_eq_true rfl, Nat.le_of_ble_eq_true rfl⟩) hS (fun σ3 H locs hq hP hD hS => ?_)
        refine lv_iinc (v := (v4 + (1 : Int32))) (lv' := [(4, .int (v4 + (1 : Int32))), (0, .ref (ad 0)), (2, .int p2), (3, .int p3)]) hx hb dX7_split_82 hl (k := 3) rfl (by rfl) (by decide) rfl (fun ls hl => ?_)
        refine lv_goto (tgt := 35) hx hb dX7_split_85 (by decide) ?_
        rw [hK35] at hq
        exact hq _ _ _ hP hD hS (lv_sub hl [1, 2, 3, 0] rfl)
      · have hq := hq.2 hc
        refine lv_iconst (v := (1 : Int32)) hx hb dX7_split_74 (by decide) ?_
        refine lv_goto (tgt := 79) hx hb dX7_split_75 (by decide) ?_
        refine w_callv (va_runVN (As := [.int (σ.1 6 (v4).toNatClampNeg), .int (1 : Int32)]) (rest := []) ⟨hx, hb, hml, hown, hts⟩ (mtX6_setHidden l D ad cA A σ2 (σ.1 6 (v4).toNatClampNeg) (1 : Int32) _ hq) ⟨va_cnB 2 hts ggX7_split_X6_setHidden rfl rfl rfl (hN (.methodLinkNest RX7 95 yX6_setHidden "ArcGuesser") (List.mem_of_getElem? (i := 34) rfl)) (hts (.initialized RX6) (List.mem_of_getElem? (i := 18) rfl)) (by decide +kernel) ⟨Nat.le_of_ble_eq_true rfl, Nat.le_of_ble_eq_true rfl⟩, hts (.instanceMethod yX6_setHidden) (List.mem_of_getElem? (i := 17) rfl), hts (.selects RX6 yX6_setHidden yX6_setHidden) (List.mem_of_getElem? (i := 19) rfl)⟩ ⟨stW_blind nwX_ok, va_recv hK hP (ci := 6) (q0 := 1) rfl wXg1, stW_pass hA hS hN hK hP hD nwX_ok⟩ rfl rfl hl.1 rfl (lv_room (Nat.le_of_ble_eq_true rfl)) dX7_split_79 ⟨Nat.le_of_ble_eq_true rfl, Nat.le_of_ble_eq_true rfl⟩) hS (fun σ4 H locs hq hP hD hS => ?_)
        refine lv_iinc (v := (v4 + (1 : Int32))) (lv' := [(4, .int (v4 + (1 : Int32))), (0, .ref (ad 0)), (2, .int p2), (3, .int p3)]) hx hb dX7_split_82 hl (k := 3) rfl (by rfl) (by decide) rfl (fun ls hl => ?_)
        refine lv_goto (tgt := 35) hx hb dX7_split_85 (by decide) ?_
        rw [hK35] at hq
        exact hq _ _ _ hP hD hS (lv_sub hl [1, 2, 3, 0] rfl)
  have hq := hwp K35 hk35
  refine lv_iload_n hx hb dX7_split_0 rfl (lv_at hl 2 rfl) ?_
  refine lv_iconst (v := (1 : Int32)) hx hb dX7_split_1 (by decide) ?_
  refine lv_bipush (v := (20 : Int32)) hx hb dX7_split_2 (by decide) ?_
  refine w_calli (va_runS (As := [.int p2, .int (1 : Int32), .int (20 : Int32)]) (rest := []) ⟨hx, hb, hml, hown, hts⟩ (mtX7_isWithin l D ad cA A σ p2 (1 : Int32) (20 : Int32) _ hq) (va_cwS 3 hts gX7_split_X7_isWithin rfl rfl rfl (by decide +kernel) ⟨Nat.le_of_ble_eq_true rfl, Nat.le_of_ble_eq_true rfl⟩) ⟨stW_blind nwX_ok, stW_pass hA hS hN hK hP hD nwX_ok⟩ rfl rfl hl.1 rfl (lv_room (Nat.le_of_ble_eq_true rfl)) dX7_split_4 ⟨Nat.le_of_ble_eq_true rfl, Nat.le_of_ble_eq_true rfl⟩) hS (fun r1 σ1 H locs hq hP hD hS => ?_)
  refine lv_if_eq (tgt := 21) hx hb dX7_split_7 (by decide) (fun hc => ?_) (fun hc => ?_)
  · have hq := hq.1 hc
    refine lv_bipush (v := (-2 : Int32)) hx hb dX7_split_21 (by decide) ?_
    exact W.iret (v := (-2 : Int32)) hx hb hr (fun t ht hW => ⟨⟨(-2 : Int32), σ1, rfl, hq, by rw [ht]; exact hP, hD⟩, hS.F ht⟩) hS.2.2 dX7_split_23
  · have hq := hq.2 hc
    refine lv_iload_n hx hb dX7_split_10 rfl (lv_at hl 3 rfl) ?_
    refine lv_iconst (v := (0 : Int32)) hx hb dX7_split_11 (by decide) ?_
    refine lv_iload_n hx hb dX7_split_12 rfl (lv_at hl 2 rfl) ?_
    refine lv_iconst (v := (1 : Int32)) hx hb dX7_split_13 (by decide) ?_
    refine lv_isub hx hb dX7_split_14 ?_
    refine w_calli (va_runS (As := [.int p3, .int (0 : Int32), .int (p2 - (1 : Int32))]) (rest := []) ⟨hx, hb, hml, hown, hts⟩ (mtX7_isWithin l D ad cA A σ1 p3 (0 : Int32) (p2 - (1 : Int32)) _ hq) (va_cwS 3 hts gX7_split_X7_isWithin rfl rfl rfl (by decide +kernel) ⟨Nat.le_of_ble_eq_true rfl, Nat.le_of_ble_eq_true rfl⟩) ⟨stW_blind nwX_ok, stW_pass hA hS hN hK hP hD nwX_ok⟩ rfl rfl hl.1 rfl (lv_room (Nat.le_of_ble_eq_true rfl)) dX7_split_15 ⟨Nat.le_of_ble_eq_true rfl, Nat.le_of_ble_eq_true rfl⟩) hS (fun r2 σ2 H locs hq hP hD hS => ?_)
    refine lv_if_ne (tgt := 24) hx hb dX7_split_18 (by decide) (fun hc => ?_) (fun hc => ?_)
    · have hq := hq.1 hc
      refine lv_aload_n hx hb dX7_split_24 rfl (lv_at hl 0 rfl) ?_
      refine va_get (D := D) (ci := 7) (v := .ref (ad 28)) (C := RX7) (T := TX7) (N := 7) hx hb hts hiX7 hown hK hP 0 wXg0 rfl 5 (by decide) (hts (.fieldLink RX7 51 "ArcGuesser" "draws" "LArcGuesser$Draws;") (List.mem_of_getElem? (i := 1) rfl)) (fun _ h9 => h9) rfl dX7_split_25 ?_
      refine lv_iload_n hx hb dX7_split_28 rfl (lv_at hl 1 rfl) ?_
      refine w_callv (va_runVN (As := [.int p1]) (rest := []) ⟨hx, hb, hml, hown, hts⟩ (mtX2_startFrom l D ad cA A σ2 p1 _ hq) ⟨va_cnB 1 hts ggX7_split_X2_startFrom rfl rfl rfl (hN (.methodLinkNest RX7 109 yX2_startFrom "ArcGuesser") (List.mem_of_getElem? (i := 36) rfl)) (hts (.initialized RX2) (List.mem_of_getElem? (i := 8) rfl)) (by decide +kernel) ⟨Nat.le_of_ble_eq_true rfl, Nat.le_of_ble_eq_true rfl⟩, hts (.instanceMethod yX2_startFrom) (List.mem_of_getElem? (i := 7) rfl), hts (.selects RX2 yX2_startFrom yX2_startFrom) (List.mem_of_getElem? (i := 9) rfl)⟩ ⟨stW_blind nwX_ok, va_recv hK hP (ci := 2) (q0 := 28) rfl wXg28, stW_pass hA hS hN hK hP hD nwX_ok⟩ rfl rfl hl.1 rfl (lv_room (Nat.le_of_ble_eq_true rfl)) dX7_split_29 ⟨Nat.le_of_ble_eq_true rfl, Nat.le_of_ble_eq_true rfl⟩) hS (fun σ3 H locs hq hP hD hS => ?_)
      refine lv_iconst (v := (0 : Int32)) hx hb dX7_split_32 (by decide) ?_
      refine lv_istore (lv' := [(4, .int (0 : Int32)), (0, .ref (ad 0)), (1, .int p1), (2, .int p2), (3, .int p3)]) hx hb dX7_split_33 hl (by decide) rfl (fun ls hl => ?_)
      rw [hK35] at hq
      exact hq _ _ _ hP hD hS (lv_sub hl [1, 3, 4, 0] rfl)
    · have hq := hq.2 hc
      refine lv_bipush (v := (-2 : Int32)) hx hb dX7_split_21 (by decide) ?_
      exact W.iret (v := (-2 : Int32)) hx hb hr (fun t ht hW => ⟨⟨(-2 : Int32), σ2, rfl, hq, by rw [ht]; exact hP, hD⟩, hS.F ht⟩) hS.2.2 dX7_split_23
/-! ArcGuesser.top()J -/
def X7_top_wp (σ : Sto)  (Post : Int64 → Sto → Prop) : Prop :=
  (Post (σ.2 29 0) σ)
set_option maxHeartbeats 4000000 in
set_option maxRecDepth 100000 in
theorem mtX7_top (l : Launch) (D : va_G) (ad : Nat → Nat) (cA : Nat → ClassId) (A : Nat → Prop) (σ : Sto)  (Post : Int64 → Sto → Prop) (hwp : X7_top_wp σ  Post) : Met l yX7_top wsX7_top ({ frames := 0, cells := 0, slots := 0, locals := 0 }) (va_Pc [.ref (ad 0)] (stW D (tyX cA) nwX (wX ad cA) A σ)) (va_Ql Post (enW D (wX ad cA) A) A) 0 0 A := by
  refine Met.ofW (cc := cX7_top) (maxL := 1) (ret := (some .long)) (by decide) rfl ?_
  intro p e s m args below meth c s₁ B hml hv
  obtain ⟨rfl, hA, hN, hP, hK, hD⟩ := hv
  have hx := B.exec
  have hb := B.bytes
  have hr := B.returns
  have hts := atoms_spec (ws := wsX7_top) B.pre
  have hown : s.vm.findClass RX7 = some m.cls := findClass_of_methodNamed B.named
  have hlocks := B.notSynchronized
  have hiX0 : ∀ w ∈ wsX00, w ∈ wsX7_top := by decide +kernel
  have hiX7 : ∀ w ∈ wsX70, w ∈ wsX7_top := by decide +kernel
  have hS : va_S A s.heap s.heap [] := va_S.rf
  have hl := lv_entry ([.ref (ad 0)]) (n := 1) (Nat.le_of_ble_eq_true rfl)
  rw [lg_entry_eq]
  generalize (lg_sl ([.ref (ad 0)]) ++ List.replicate (1 - (lg_sl ([.ref (ad 0)])).length) Slot.unset).toArray = ls at hl ⊢
  have hl : lv_has ls 1 [(0, .ref (ad 0))] := hl
  have hq := hwp
  unfold X7_top_wp at hq
  refine lv_aload_n hx hb dX7_top_0 rfl (lv_at hl 0 rfl) ?_
  refine va_get (D := D) (ci := 7) (v := .ref (ad 29)) (C := RX7) (T := TX7) (N := 7) hx hb hts hiX7 hown hK hP 0 wXg0 rfl 6 (by decide) (hts (.fieldLink RX7 58 "ArcGuesser" "board" "LArcGuesser$Board;") (List.mem_of_getElem? (i := 1) rfl)) (fun _ h9 => h9) rfl dX7_top_1 ?_
  refine va_getN (D := D) (ci := 0) (v := .long (σ.2 29 0)) (C := RX0) (T := TX0) (N := 2) hx hb hts hiX0 hown hK hP 29 wXg29 rfl 0 (by decide) (va_Nw.use rfl (hN (.fieldLinkNest RX7 146 "ArcGuesser$Board" "above" "J" "ArcGuesser") (List.mem_of_getElem? (i := 8) rfl))) (fun _ h9 => h9) rfl dX7_top_4 ?_
  exact W.lret (v := (σ.2 29 0)) hx hb hr (fun t ht hW => ⟨⟨(σ.2 29 0), σ, rfl, hq, by rw [ht]; exact hP, hD⟩, hS.F ht⟩) hS.2.2 dX7_top_7
/-! ArcGuesser.weigh(II)I -/
def X7_weigh_wp (σ : Sto) (p1 : Int32) (p2 : Int32) (Post : Int32 → Sto → Prop) : Prop :=
  (X7_isMeasure_wp σ p1 (fun r1 σ1 => ((r1 = 0 → (Post (-2 : Int32) σ1)) ∧ (¬ r1 = 0 → (X7_isWithin_wp σ1 p2 (-99 : Int32) (99 : Int32) (fun r2 σ2 => ((¬ r2 = 0 → (vp_in p1 11 ∧ (vp_in p1 11 ∧ (Post ((σ2.1 13 (p1).toNatClampNeg) + (100 : Int32)) (sI σ2 13 (p1).toNatClampNeg p2))))) ∧ (r2 = 0 → (Post (-2 : Int32) σ2)))))))))
set_option maxHeartbeats 4000000 in
set_option maxRecDepth 100000 in
theorem mtX7_weigh (l : Launch) (D : va_G) (ad : Nat → Nat) (cA : Nat → ClassId) (A : Nat → Prop) (σ : Sto) (p1 : Int32) (p2 : Int32) (Post : Int32 → Sto → Prop) (hwp : X7_weigh_wp σ p1 p2 Post) : Met l yX7_weigh wsX7_weigh ({ frames := 2, cells := 0, slots := 0, locals := 42 }) (va_Pc [.ref (ad 0), .int p1, .int p2] (stW D (tyX cA) nwX (wX ad cA) A σ)) (va_Qi Post (enW D (wX ad cA) A) A) 0 0 A := by
  refine Met.ofW (cc := cX7_weigh) (maxL := 4) (ret := (some .int)) (by decide) rfl ?_
  intro p e s m args below meth c s₁ B hml hv
  obtain ⟨rfl, hA, hN, hP, hK, hD⟩ := hv
  have hx := B.exec
  have hb := B.bytes
  have hr := B.returns
  have hts := atoms_spec (ws := wsX7_weigh) B.pre
  have hown : s.vm.findClass RX7 = some m.cls := findClass_of_methodNamed B.named
  have hlocks := B.notSynchronized
  have hiX5 : ∀ w ∈ wsX50, w ∈ wsX7_weigh := by decide +kernel
  have hiX7 : ∀ w ∈ wsX70, w ∈ wsX7_weigh := by decide +kernel
  have hS : va_S A s.heap s.heap [] := va_S.rf
  have hl := lv_entry ([.ref (ad 0), .int p1, .int p2]) (n := 4) (Nat.le_of_ble_eq_true rfl)
  rw [lg_entry_eq]
  generalize (lg_sl ([.ref (ad 0), .int p1, .int p2]) ++ List.replicate (4 - (lg_sl ([.ref (ad 0), .int p1, .int p2])).length) Slot.unset).toArray = ls at hl ⊢
  have hl : lv_has ls 4 [(0, .ref (ad 0)), (1, .int p1), (2, .int p2)] := hl
  have hq := hwp
  unfold X7_weigh_wp at hq
  refine lv_iload_n hx hb dX7_weigh_0 rfl (lv_at hl 1 rfl) ?_
  refine w_calli (va_runS (As := [.int p1]) (rest := []) ⟨hx, hb, hml, hown, hts⟩ (mtX7_isMeasure l D ad cA A σ p1 _ hq) (va_cwS 1 hts gX7_weigh_X7_isMeasure rfl rfl rfl (by decide +kernel) ⟨Nat.le_of_ble_eq_true rfl, Nat.le_of_ble_eq_true rfl⟩) ⟨stW_blind nwX_ok, stW_pass hA hS hN hK hP hD nwX_ok⟩ rfl rfl hl.1 rfl (lv_room (Nat.le_of_ble_eq_true rfl)) dX7_weigh_1 ⟨Nat.le_of_ble_eq_true rfl, Nat.le_of_ble_eq_true rfl⟩) hS (fun r1 σ1 H locs hq hP hD hS => ?_)
  refine lv_if_eq (tgt := 18) hx hb dX7_weigh_4 (by decide) (fun hc => ?_) (fun hc => ?_)
  · have hq := hq.1 hc
    refine lv_bipush (v := (-2 : Int32)) hx hb dX7_weigh_18 (by decide) ?_
    exact W.iret (v := (-2 : Int32)) hx hb hr (fun t ht hW => ⟨⟨(-2 : Int32), σ1, rfl, hq, by rw [ht]; exact hP, hD⟩, hS.F ht⟩) hS.2.2 dX7_weigh_20
  · have hq := hq.2 hc
    refine lv_iload_n hx hb dX7_weigh_7 rfl (lv_at hl 2 rfl) ?_
    refine lv_bipush (v := (-99 : Int32)) hx hb dX7_weigh_8 (by decide) ?_
    refine lv_bipush (v := (99 : Int32)) hx hb dX7_weigh_10 (by decide) ?_
    refine w_calli (va_runS (As := [.int p2, .int (-99 : Int32), .int (99 : Int32)]) (rest := []) ⟨hx, hb, hml, hown, hts⟩ (mtX7_isWithin l D ad cA A σ1 p2 (-99 : Int32) (99 : Int32) _ hq) (va_cwS 3 hts gX7_weigh_X7_isWithin rfl rfl rfl (by decide +kernel) ⟨Nat.le_of_ble_eq_true rfl, Nat.le_of_ble_eq_true rfl⟩) ⟨stW_blind nwX_ok, stW_pass hA hS hN hK hP hD nwX_ok⟩ rfl rfl hl.1 rfl (lv_room (Nat.le_of_ble_eq_true rfl)) dX7_weigh_12 ⟨Nat.le_of_ble_eq_true rfl, Nat.le_of_ble_eq_true rfl⟩) hS (fun r2 σ2 H locs hq hP hD hS => ?_)
    refine lv_if_ne (tgt := 21) hx hb dX7_weigh_15 (by decide) (fun hc => ?_) (fun hc => ?_)
    · have hq := hq.1 hc
      refine lv_aload_n hx hb dX7_weigh_21 rfl (lv_at hl 0 rfl) ?_
      refine va_get (D := D) (ci := 7) (v := .ref (ad 12)) (C := RX7) (T := TX7) (N := 7) hx hb hts hiX7 hown hK hP 0 wXg0 rfl 2 (by decide) (hts (.fieldLink RX7 30 "ArcGuesser" "mix" "LArcGuesser$Mix;") (List.mem_of_getElem? (i := 1) rfl)) (fun _ h9 => h9) rfl dX7_weigh_22 ?_
      refine va_getN (D := D) (ci := 5) (v := .ref (ad 13)) (C := RX5) (T := TX5) (N := 2) hx hb hts hiX5 hown hK hP 12 wXg12 rfl 1 (by decide) (va_Nw.use rfl (hN (.fieldLinkNest RX7 129 "ArcGuesser$Mix" "weights" "[I" "ArcGuesser") (List.mem_of_getElem? (i := 7) rfl))) (fun _ h9 => h9) rfl dX7_weigh_25 ?_
      refine lv_iload_n hx hb dX7_weigh_28 rfl (lv_at hl 1 rfl) ?_
      refine va_iald hx hb hK hP 13 0 wXg13 rfl hq.1 dX7_weigh_29 ?_
      have hq := hq.2
      refine lv_istore_n (lv' := [(3, .int (σ2.1 13 (p1).toNatClampNeg)), (0, .ref (ad 0)), (1, .int p1), (2, .int p2)]) hx hb dX7_weigh_30 rfl hl (by decide) rfl (fun ls hl => ?_)
      refine lv_aload_n hx hb dX7_weigh_31 rfl (lv_at hl 1 rfl) ?_
      refine va_get (D := D) (ci := 7) (v := .ref (ad 12)) (C := RX7) (T := TX7) (N := 7) hx hb hts hiX7 hown hK hP 0 wXg0 rfl 2 (by decide) (hts (.fieldLink RX7 30 "ArcGuesser" "mix" "LArcGuesser$Mix;") (List.mem_of_getElem? (i := 1) rfl)) (fun _ h9 => h9) rfl dX7_weigh_32 ?_
      refine va_getN (D := D) (ci := 5) (v := .ref (ad 13)) (C := RX5) (T := TX5) (N := 2) hx hb hts hiX5 hown hK hP 12 wXg12 rfl 1 (by decide) (va_Nw.use rfl (hN (.fieldLinkNest RX7 129 "ArcGuesser$Mix" "weights" "[I" "ArcGuesser") (List.mem_of_getElem? (i := 7) rfl))) (fun _ h9 => h9) rfl dX7_weigh_35 ?_
      refine lv_iload_n hx hb dX7_weigh_38 rfl (lv_at hl 2 rfl) ?_
      refine lv_iload_n hx hb dX7_weigh_39 rfl (lv_at hl 3 rfl) ?_
      refine va_iast hx hb hK hP hD hS 13 0 wXg13 rfl hq.1 dX7_weigh_40 (fun H locs hP hD hS => ?_)
      have hP := wXsP13 hP
      have hD := wXsD13 hD
      have hq := hq.2
      refine lv_iload_n hx hb dX7_weigh_41 rfl (lv_at hl 0 rfl) ?_
      refine lv_bipush (v := (100 : Int32)) hx hb dX7_weigh_42 (by decide) ?_
      refine lv_iadd hx hb dX7_weigh_44 ?_
      exact W.iret (v := ((σ2.1 13 (p1).toNatClampNeg) + (100 : Int32))) hx hb hr (fun t ht hW => ⟨⟨((σ2.1 13 (p1).toNatClampNeg) + (100 : Int32)), (sI σ2 13 (p1).toNatClampNeg p2), rfl, hq, by rw [ht]; exact hP, hD⟩, hS.F ht⟩) hS.2.2 dX7_weigh_45
    · have hq := hq.2 hc
      refine lv_bipush (v := (-2 : Int32)) hx hb dX7_weigh_18 (by decide) ?_
      exact W.iret (v := (-2 : Int32)) hx hb hr (fun t ht hW => ⟨⟨(-2 : Int32), σ2, rfl, hq, by rw [ht]; exact hP, hD⟩, hS.F ht⟩) hS.2.2 dX7_weigh_20
/-! ArcGuesser.weight(I)I -/
def X7_weight_wp (σ : Sto) (p1 : Int32) (Post : Int32 → Sto → Prop) : Prop :=
  (X7_isMeasure_wp σ p1 (fun r1 σ1 => ((¬ r1 = 0 → (vp_in p1 11 ∧ (Post ((σ1.1 13 (p1).toNatClampNeg) + (100 : Int32)) σ1))) ∧ (r1 = 0 → (Post (-2 : Int32) σ1)))))
set_option maxHeartbeats 4000000 in
set_option maxRecDepth 100000 in
theorem mtX7_weight (l : Launch) (D : va_G) (ad : Nat → Nat) (cA : Nat → ClassId) (A : Nat → Prop) (σ : Sto) (p1 : Int32) (Post : Int32 → Sto → Prop) (hwp : X7_weight_wp σ p1 Post) : Met l yX7_weight wsX7_weight ({ frames := 2, cells := 0, slots := 0, locals := 42 }) (va_Pc [.ref (ad 0), .int p1] (stW D (tyX cA) nwX (wX ad cA) A σ)) (va_Qi Post (enW D (wX ad cA) A) A) 0 0 A := by
  refine Met.ofW (cc := cX7_weight) (maxL := 2) (ret := (some .int)) (by decide) rfl ?_
  intro p e s m args below meth c s₁ B hml hv
  obtain ⟨rfl, hA, hN, hP, hK, hD⟩ := hv
  have hx := B.exec
  have hb := B.bytes
  have hr := B.returns
  have hts := atoms_spec (ws := wsX7_weight) B.pre
  have hown : s.vm.findClass RX7 = some m.cls := findClass_of_methodNamed B.named
  have hlocks := B.notSynchronized
  have hiX5 : ∀ w ∈ wsX50, w ∈ wsX7_weight := by decide +kernel
  have hiX7 : ∀ w ∈ wsX70, w ∈ wsX7_weight := by decide +kernel
  have hS : va_S A s.heap s.heap [] := va_S.rf
  have hl := lv_entry ([.ref (ad 0), .int p1]) (n := 2) (Nat.le_of_ble_eq_true rfl)
  rw [lg_entry_eq]
  generalize (lg_sl ([.ref (ad 0), .int p1]) ++ List.replicate (2 - (lg_sl ([.ref (ad 0), .int p1])).length) Slot.unset).toArray = ls at hl ⊢
  have hl : lv_has ls 2 [(0, .ref (ad 0)), (1, .int p1)] := hl
  have hq := hwp
  unfold X7_weight_wp at hq
  refine lv_iload_n hx hb dX7_weight_0 rfl (lv_at hl 1 rfl) ?_
  refine w_calli (va_runS (As := [.int p1]) (rest := []) ⟨hx, hb, hml, hown, hts⟩ (mtX7_isMeasure l D ad cA A σ p1 _ hq) (va_cwS 1 hts gX7_weight_X7_isMeasure rfl rfl rfl (by decide +kernel) ⟨Nat.le_of_ble_eq_true rfl, Nat.le_of_ble_eq_true rfl⟩) ⟨stW_blind nwX_ok, stW_pass hA hS hN hK hP hD nwX_ok⟩ rfl rfl hl.1 rfl (lv_room (Nat.le_of_ble_eq_true rfl)) dX7_weight_1 ⟨Nat.le_of_ble_eq_true rfl, Nat.le_of_ble_eq_true rfl⟩) hS (fun r1 σ1 H locs hq hP hD hS => ?_)
  refine lv_if_ne (tgt := 10) hx hb dX7_weight_4 (by decide) (fun hc => ?_) (fun hc => ?_)
  · have hq := hq.1 hc
    refine lv_aload_n hx hb dX7_weight_10 rfl (lv_at hl 0 rfl) ?_
    refine va_get (D := D) (ci := 7) (v := .ref (ad 12)) (C := RX7) (T := TX7) (N := 7) hx hb hts hiX7 hown hK hP 0 wXg0 rfl 2 (by decide) (hts (.fieldLink RX7 30 "ArcGuesser" "mix" "LArcGuesser$Mix;") (List.mem_of_getElem? (i := 1) rfl)) (fun _ h9 => h9) rfl dX7_weight_11 ?_
    refine va_getN (D := D) (ci := 5) (v := .ref (ad 13)) (C := RX5) (T := TX5) (N := 2) hx hb hts hiX5 hown hK hP 12 wXg12 rfl 1 (by decide) (va_Nw.use rfl (hN (.fieldLinkNest RX7 129 "ArcGuesser$Mix" "weights" "[I" "ArcGuesser") (List.mem_of_getElem? (i := 7) rfl))) (fun _ h9 => h9) rfl dX7_weight_14 ?_
    refine lv_iload_n hx hb dX7_weight_17 rfl (lv_at hl 1 rfl) ?_
    refine va_iald hx hb hK hP 13 0 wXg13 rfl hq.1 dX7_weight_18 ?_
    have hq := hq.2
    refine lv_bipush (v := (100 : Int32)) hx hb dX7_weight_19 (by decide) ?_
    refine lv_iadd hx hb dX7_weight_21 ?_
    exact W.iret (v := ((σ1.1 13 (p1).toNatClampNeg) + (100 : Int32))) hx hb hr (fun t ht hW => ⟨⟨((σ1.1 13 (p1).toNatClampNeg) + (100 : Int32)), σ1, rfl, hq, by rw [ht]; exact hP, hD⟩, hS.F ht⟩) hS.2.2 dX7_weight_22
  · have hq := hq.2 hc
    refine lv_bipush (v := (-2 : Int32)) hx hb dX7_weight_7 (by decide) ?_
    exact W.iret (v := (-2 : Int32)) hx hb hr (fun t ht hW => ⟨⟨(-2 : Int32), σ1, rfl, hq, by rw [ht]; exact hP, hD⟩, hS.F ht⟩) hS.2.2 dX7_weight_9
