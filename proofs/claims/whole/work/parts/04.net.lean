/-! ArcGuesser$Net.has(II)Z -/
def X6_has_wp (σ : Sto) (p0 : Int32) (p1 : Int32) (Post : Int32 → Sto → Prop) : Prop :=
  ((¬ ((p0 >>> (p1 &&& 31)) &&& (1 : Int32)) = (1 : Int32) → (Post (0 : Int32) σ)) ∧ (((p0 >>> (p1 &&& 31)) &&& (1 : Int32)) = (1 : Int32) → (Post (1 : Int32) σ)))
set_option maxHeartbeats 4000000 in
set_option maxRecDepth 100000 in
theorem mtX6_has (l : Launch) (D : va_G) (ad : Nat → Nat) (cA : Nat → ClassId) (A : Nat → Prop) (σ : Sto) (p0 : Int32) (p1 : Int32) (Post : Int32 → Sto → Prop) (hwp : X6_has_wp σ p0 p1 Post) : Met l yX6_has wsX6_has ({ frames := 0, cells := 0, slots := 0, locals := 0 }) (va_Pc [.int p0, .int p1] (stW D (tyX cA) nwX (wX ad cA) A σ)) (va_Qi Post (enW D (wX ad cA) A) A) 0 0 A := by
  refine Met.ofW (cc := cX6_has) (maxL := 2) (ret := (some .boolean)) (by decide) rfl ?_
  intro p e s m args below meth c s₁ B hml hv
  obtain ⟨rfl, hA, hN, hP, hK, hD⟩ := hv
  have hx := B.exec
  have hb := B.bytes
  have hr := B.returns
  have hts := atoms_spec (ws := wsX6_has) B.pre
  have hown : s.vm.findClass RX6 = some m.cls := findClass_of_methodNamed B.named
  have hlocks := B.notSynchronized
  have hS : va_S A s.heap s.heap [] := va_S.rf
  have hl := lv_entry ([.int p0, .int p1]) (n := 2) (Nat.le_of_ble_eq_true rfl)
  rw [lg_entry_eq]
  generalize (lg_sl ([.int p0, .int p1]) ++ List.replicate (2 - (lg_sl ([.int p0, .int p1])).length) Slot.unset).toArray = ls at hl ⊢
  have hl : lv_has ls 2 [(0, .int p0), (1, .int p1)] := hl
  have hq := hwp
  unfold X6_has_wp at hq
  refine lv_iload_n hx hb dX6_has_0 rfl (lv_at hl 0 rfl) ?_
  refine lv_iload_n hx hb dX6_has_1 rfl (lv_at hl 1 rfl) ?_
  refine lv_ishr hx hb dX6_has_2 ?_
  refine lv_iconst (v := (1 : Int32)) hx hb dX6_has_3 (by decide) ?_
  refine lv_iand hx hb dX6_has_4 ?_
  refine lv_iconst (v := (1 : Int32)) hx hb dX6_has_5 (by decide) ?_
  refine lv_icmp_ne (tgt := 13) hx hb dX6_has_6 (by decide) (fun hc => ?_) (fun hc => ?_)
  · have hq := hq.1 hc
    refine lv_iconst (v := (0 : Int32)) hx hb dX6_has_13 (by decide) ?_
    exact W.zret (v := (0 : Int32)) hx hb hr rfl (fun t ht hW => ⟨⟨(0 : Int32), σ, rfl, hq, by rw [ht]; exact hP, hD⟩, hS.F ht⟩) hS.2.2 dX6_has_14
  · have hq := hq.2 hc
    refine lv_iconst (v := (1 : Int32)) hx hb dX6_has_9 (by decide) ?_
    refine lv_goto (tgt := 14) hx hb dX6_has_10 (by decide) ?_
    exact W.zret (v := (1 : Int32)) hx hb hr rfl (fun t ht hW => ⟨⟨(1 : Int32), σ, rfl, hq, by rw [ht]; exact hP, hD⟩, hS.F ht⟩) hS.2.2 dX6_has_14
/-! ArcGuesser$Net.leadsFrom(I)I -/
def X6_leadsFrom_b4 (p1 : Int32) (K4 : Sto → Int32 → Int32 → Prop) (Post : Int32 → Sto → Prop) (σ : Sto) (v2 : Int32) (v3 : Int32) : Prop :=
  (((σ.1 1 0) ≤ v3 → (Post v2 σ)) ∧ (¬ (σ.1 1 0) ≤ v3 → (X6_has_wp σ p1 v3 (fun r1 σ1 => ((r1 = 0 → (K4 σ1 v2 (v3 + (1 : Int32)))) ∧ (¬ r1 = 0 → (vp_in v3 12 ∧ (K4 σ1 (v2 ||| (σ1.1 9 (v3).toNatClampNeg)) (v3 + (1 : Int32))))))))))
def X6_leadsFrom_wp (σ : Sto) (p1 : Int32) (Post : Int32 → Sto → Prop) : Prop := ∀ (K4 : Sto → Int32 → Int32 → Prop), (∀ (σ : Sto) (v2 : Int32) (v3 : Int32), X6_leadsFrom_b4 p1 K4 Post σ v2 v3 → K4 σ v2 v3) → 
  (K4 σ (0 : Int32) (0 : Int32))
set_option maxHeartbeats 4000000 in
set_option maxRecDepth 100000 in
theorem mtX6_leadsFrom (l : Launch) (D : va_G) (ad : Nat → Nat) (cA : Nat → ClassId) (A : Nat → Prop) (σ : Sto) (p1 : Int32) (Post : Int32 → Sto → Prop) (hwp : X6_leadsFrom_wp σ p1 Post) : Met l yX6_leadsFrom wsX6_leadsFrom ({ frames := 1, cells := 0, slots := 0, locals := 21 }) (va_Pc [.ref (ad 1), .int p1] (stW D (tyX cA) nwX (wX ad cA) A σ)) (va_Qi Post (enW D (wX ad cA) A) A) 0 0 A := by
  refine Met.ofW (cc := cX6_leadsFrom) (maxL := 4) (ret := (some .int)) (by decide) rfl ?_
  intro p e s m args below meth c s₁ B hml hv
  obtain ⟨rfl, hA, hN, hP, hK, hD⟩ := hv
  have hx := B.exec
  have hb := B.bytes
  have hr := B.returns
  have hts := atoms_spec (ws := wsX6_leadsFrom) B.pre
  have hown : s.vm.findClass RX6 = some m.cls := findClass_of_methodNamed B.named
  have hlocks := B.notSynchronized
  have hiX6 : ∀ w ∈ wsX60, w ∈ wsX6_leadsFrom := by decide +kernel
  have hS : va_S A s.heap s.heap [] := va_S.rf
  have hl := lv_entry ([.ref (ad 1), .int p1]) (n := 4) (Nat.le_of_ble_eq_true rfl)
  rw [lg_entry_eq]
  generalize (lg_sl ([.ref (ad 1), .int p1]) ++ List.replicate (4 - (lg_sl ([.ref (ad 1), .int p1])).length) Slot.unset).toArray = ls at hl ⊢
  have hl : lv_has ls 4 [(0, .ref (ad 1)), (1, .int p1)] := hl
  obtain ⟨K4, hK4⟩ : ∃ K : Sto → Int32 → Int32 → Prop, K = fun (σ : Sto) (v2 : Int32) (v3 : Int32) => ∀ (H : Heap) (locs : List Loc) (ls : Array Slot), va_P D vwCl ((wX ad cA) σ) H → va_D A ((wX ad cA) σ) → va_S A s.heap H locs → lv_has ls 4 [(0, .ref (ad 1)), (1, .int p1), (2, .int v2), (3, .int v3)] → W p l e (headSpec wsX6_leadsFrom ({ frames := 1, cells := 0, slots := 0, locals := 21 })).room s m ([.ref (ad 1), .int p1] : List Value).toArray below meth c H locs 0 0 (MQ below (va_Qi Post (enW D (wX ad cA) A) A) ([.ref (ad 1), .int p1] : List Value).toArray s 0 0 A) (F0 m 4 ls []) := ⟨_, rfl⟩
  have hk4 : ∀ (σ : Sto) (v2 : Int32) (v3 : Int32), X6_leadsFrom_b4 p1 K4 Post σ v2 v3 → K4 σ v2 v3 := by
    intro σ v2 v3 hq
    rw [hK4]
    intro H locs ls hP hD hS hl
    unfold X6_leadsFrom_b4 at hq
    refine lv_iload_n hx hb dX6_leadsFrom_4 rfl (lv_at hl 3 rfl) ?_
    refine lv_aload_n hx hb dX6_leadsFrom_5 rfl (lv_at hl 0 rfl) ?_
    refine va_get (D := D) (ci := 6) (v := .int (σ.1 1 0)) (C := RX6) (T := TX6) (N := 13) hx hb hts hiX6 hown hK hP 1 wXg1 rfl 0 (by decide) (hts (.fieldLink RX6 39 "ArcGuesser$Net" "nodes" "I") (List.mem_of_getElem? (i := 1) rfl)) (fun _ h9 => h9) rfl dX6_leadsFrom_6 ?_
    refine lv_icmp_ge (tgt := 35) hx hb dX6_leadsFrom_9 (by decide) (fun hc => ?_) (fun hc => ?_)
    · have hq := hq.1 hc
      refine lv_iload_n hx hb dX6_leadsFrom_35 rfl (lv_at hl 2 rfl) ?_
      exact W.iret (v := v2) hx hb hr (fun t ht hW => ⟨⟨v2, σ, rfl, hq, by rw [ht]; exact hP, hD⟩, hS.F ht⟩) hS.2.2 dX6_leadsFrom_36
    · have hq := hq.2 hc
      refine lv_iload_n hx hb dX6_leadsFrom_12 rfl (lv_at hl 1 rfl) ?_
      refine lv_iload_n hx hb dX6_leadsFrom_13 rfl (lv_at hl 3 rfl) ?_
      refine w_calli (va_runS (As := [.int p1, .int v3]) (rest := []) ⟨hx, hb, hml, hown, hts⟩ (mtX6_has l D ad cA A σ p1 v3 _ hq) (va_cwS 2 hts gX6_leadsFrom_X6_has rfl rfl rfl (by decide +kernel) ⟨Nat.le_of_ble_eq_true rfl, Nat.le_of_ble_eq_true rfl⟩) ⟨stW_blind nwX_ok, stW_pass hA hS hN hK hP hD nwX_ok⟩ rfl rfl hl.1 rfl (lv_room (Nat.le_of_ble_eq_true rfl)) dX6_leadsFrom_14 ⟨Nat.le_of_ble_eq_true rfl, Nat.le_of_ble_eq_true rfl⟩) hS (fun r1 σ1 H locs hq hP hD hS => ?_)
      refine lv_if_eq (tgt := 29) hx hb dX6_leadsFrom_17 (by decide) (fun hc => ?_) (fun hc => ?_)
      · have hq := hq.1 hc
        refine lv_iinc (v := (v3 + (1 : Int32))) (lv' := [(3, .int (v3 + (1 : Int32))), (0, .ref (ad 1)), (1, .int p1), (2, .int v2)]) hx hb dX6_leadsFrom_29 hl (k := 3) rfl (by rfl) (by decide) rfl (fun ls hl => ?_)
        refine lv_goto (tgt := 4) hx hb dX6_leadsFrom_32 (by decide) ?_
        rw [hK4] at hq
        exact hq _ _ _ hP hD hS (lv_sub hl [1, 2, 3, 0] rfl)
      · have hq := hq.2 hc
        refine lv_iload_n hx hb dX6_leadsFrom_20 rfl (lv_at hl 2 rfl) ?_
        refine lv_aload_n hx hb dX6_leadsFrom_21 rfl (lv_at hl 0 rfl) ?_
        refine va_get (D := D) (ci := 6) (v := .ref (ad 9)) (C := RX6) (T := TX6) (N := 13) hx hb hts hiX6 hown hK hP 1 wXg1 rfl 11 (by decide) (hts (.fieldLink RX6 33 "ArcGuesser$Net" "out" "[I") (List.mem_of_getElem? (i := 2) rfl)) (fun _ h9 => h9) rfl dX6_leadsFrom_22 ?_
        refine lv_iload_n hx hb dX6_leadsFrom_25 rfl (lv_at hl 3 rfl) ?_
        refine va_iald hx hb hK hP 9 0 wXg9 rfl hq.1 dX6_leadsFrom_26 ?_
        have hq := hq.2
        refine lv_ior hx hb dX6_leadsFrom_27 ?_
        refine lv_istore_n (lv' := [(2, .int (v2 ||| (σ1.1 9 (v3).toNatClampNeg))), (0, .ref (ad 1)), (1, .int p1), (3, .int v3)]) hx hb dX6_leadsFrom_28 rfl hl (by decide) rfl (fun ls hl => ?_)
        refine lv_iinc (v := (v3 + (1 : Int32))) (lv' := [(3, .int (v3 + (1 : Int32))), (2, .int (v2 ||| (σ1.1 9 (v3).toNatClampNeg))), (0, .ref (ad 1)), (1, .int p1)]) hx hb dX6_leadsFrom_29 hl (k := 3) rfl (by rfl) (by decide) rfl (fun ls hl => ?_)
        refine lv_goto (tgt := 4) hx hb dX6_leadsFrom_32 (by decide) ?_
        rw [hK4] at hq
        exact hq _ _ _ hP hD hS (lv_sub hl [2, 3, 1, 0] rfl)
  have hq := hwp K4 hk4
  refine lv_iconst (v := (0 : Int32)) hx hb dX6_leadsFrom_0 (by decide) ?_
  refine lv_istore_n (lv' := [(2, .int (0 : Int32)), (0, .ref (ad 1)), (1, .int p1)]) hx hb dX6_leadsFrom_1 rfl hl (by decide) rfl (fun ls hl => ?_)
  refine lv_iconst (v := (0 : Int32)) hx hb dX6_leadsFrom_2 (by decide) ?_
  refine lv_istore_n (lv' := [(3, .int (0 : Int32)), (2, .int (0 : Int32)), (0, .ref (ad 1)), (1, .int p1)]) hx hb dX6_leadsFrom_3 rfl hl (by decide) rfl (fun ls hl => ?_)
  rw [hK4] at hq
  exact hq _ _ _ hP hD hS (lv_sub hl [2, 3, 1, 0] rfl)
/-! ArcGuesser$Net.comparedWith(I)I -/
def X6_comparedWith_wp (σ : Sto) (p1 : Int32) (Post : Int32 → Sto → Prop) : Prop :=
  (((σ.1 1 1) = (2 : Int32) → (vp_in p1 12 ∧ (X6_leadsFrom_wp σ (σ.1 10 (p1).toNatClampNeg) (fun r1 σ1 => (Post (r1 &&& (((1 : Int32) <<< (p1 &&& 31)) ^^^ (-1 : Int32))) σ1))))) ∧ (¬ (σ.1 1 1) = (2 : Int32) → (vp_in p1 12 ∧ (Post (σ.1 10 (p1).toNatClampNeg) σ))))
set_option maxHeartbeats 4000000 in
set_option maxRecDepth 100000 in
theorem mtX6_comparedWith (l : Launch) (D : va_G) (ad : Nat → Nat) (cA : Nat → ClassId) (A : Nat → Prop) (σ : Sto) (p1 : Int32) (Post : Int32 → Sto → Prop) (hwp : X6_comparedWith_wp σ p1 Post) : Met l yX6_comparedWith wsX6_comparedWith ({ frames := 2, cells := 0, slots := 0, locals := 44 }) (va_Pc [.ref (ad 1), .int p1] (stW D (tyX cA) nwX (wX ad cA) A σ)) (va_Qi Post (enW D (wX ad cA) A) A) 0 0 A := by
  refine Met.ofW (cc := cX6_comparedWith) (maxL := 2) (ret := (some .int)) (by decide) rfl ?_
  intro p e s m args below meth c s₁ B hml hv
  obtain ⟨rfl, hA, hN, hP, hK, hD⟩ := hv
  have hx := B.exec
  have hb := B.bytes
  have hr := B.returns
  have hts := atoms_spec (ws := wsX6_comparedWith) B.pre
  have hown : s.vm.findClass RX6 = some m.cls := findClass_of_methodNamed B.named
  have hlocks := B.notSynchronized
  have hiX6 : ∀ w ∈ wsX60, w ∈ wsX6_comparedWith := by decide +kernel
  have hS : va_S A s.heap s.heap [] := va_S.rf
  have hl := lv_entry ([.ref (ad 1), .int p1]) (n := 2) (Nat.le_of_ble_eq_true rfl)
  rw [lg_entry_eq]
  generalize (lg_sl ([.ref (ad 1), .int p1]) ++ List.replicate (2 - (lg_sl ([.ref (ad 1), .int p1])).length) Slot.unset).toArray = ls at hl ⊢
  have hl : lv_has ls 2 [(0, .ref (ad 1)), (1, .int p1)] := hl
  have hq := hwp
  unfold X6_comparedWith_wp at hq
  refine lv_aload_n hx hb dX6_comparedWith_0 rfl (lv_at hl 0 rfl) ?_
  refine va_get (D := D) (ci := 6) (v := .int (σ.1 1 1)) (C := RX6) (T := TX6) (N := 13) hx hb hts hiX6 hown hK hP 1 wXg1 rfl 1 (by decide) (hts (.fieldLink RX6 43 "ArcGuesser$Net" "sort" "I") (List.mem_of_getElem? (i := 1) rfl)) (fun _ h9 => h9) rfl dX6_comparedWith_1 ?_
  refine lv_iconst (v := (2 : Int32)) hx hb dX6_comparedWith_4 (by decide) ?_
  refine lv_icmp_eq (tgt := 15) hx hb dX6_comparedWith_5 (by decide) (fun hc => ?_) (fun hc => ?_)
  · have hq := hq.1 hc
    refine lv_aload_n hx hb dX6_comparedWith_15 rfl (lv_at hl 0 rfl) ?_
    refine lv_aload_n hx hb dX6_comparedWith_16 rfl (lv_at hl 0 rfl) ?_
    refine va_get (D := D) (ci := 6) (v := .ref (ad 10)) (C := RX6) (T := TX6) (N := 13) hx hb hts hiX6 hown hK hP 1 wXg1 rfl 12 (by decide) (hts (.fieldLink RX6 36 "ArcGuesser$Net" "in" "[I") (List.mem_of_getElem? (i := 2) rfl)) (fun _ h9 => h9) rfl dX6_comparedWith_17 ?_
    refine lv_iload_n hx hb dX6_comparedWith_20 rfl (lv_at hl 1 rfl) ?_
    refine va_iald hx hb hK hP 10 0 wXg10 rfl hq.1 dX6_comparedWith_21 ?_
    have hq := hq.2
    refine w_calli (va_runV (As := [.int (σ.1 10 (p1).toNatClampNeg)]) (rest := []) ⟨hx, hb, hml, hown, hts⟩ (mtX6_leadsFrom l D ad cA A σ (σ.1 10 (p1).toNatClampNeg) _ hq) (cwV 1 hts gX6_comparedWith_X6_leadsFrom rfl rfl rfl (by decide +kernel) ⟨Nat.le_of_ble_eq_true rfl, Nat.le_of_ble_eq_true rfl⟩) ⟨stW_blind nwX_ok, va_recv hK hP (ci := 6) (q0 := 1) rfl wXg1, stW_pass hA hS hN hK hP hD nwX_ok⟩ rfl rfl hl.1 rfl (lv_room (Nat.le_of_ble_eq_true rfl)) dX6_comparedWith_22 ⟨Nat.le_of_ble_eq_true rfl, Nat.le_of_ble_eq_true rfl⟩) hS (fun r1 σ1 H locs hq hP hD hS => ?_)
    refine lv_iconst (v := (1 : Int32)) hx hb dX6_comparedWith_25 (by decide) ?_
    refine lv_iload_n hx hb dX6_comparedWith_26 rfl (lv_at hl 1 rfl) ?_
    refine lv_ishl hx hb dX6_comparedWith_27 ?_
    refine lv_iconst (v := (-1 : Int32)) hx hb dX6_comparedWith_28 (by decide) ?_
    refine lv_ixor hx hb dX6_comparedWith_29 ?_
    refine lv_iand hx hb dX6_comparedWith_30 ?_
    exact W.iret (v := (r1 &&& (((1 : Int32) <<< (p1 &&& 31)) ^^^ (-1 : Int32)))) hx hb hr (fun t ht hW => ⟨⟨(r1 &&& (((1 : Int32) <<< (p1 &&& 31)) ^^^ (-1 : Int32))), σ1, rfl, hq, by rw [ht]; exact hP, hD⟩, hS.F ht⟩) hS.2.2 dX6_comparedWith_31
  · have hq := hq.2 hc
    refine lv_aload_n hx hb dX6_comparedWith_8 rfl (lv_at hl 0 rfl) ?_
    refine va_get (D := D) (ci := 6) (v := .ref (ad 10)) (C := RX6) (T := TX6) (N := 13) hx hb hts hiX6 hown hK hP 1 wXg1 rfl 12 (by decide) (hts (.fieldLink RX6 36 "ArcGuesser$Net" "in" "[I") (List.mem_of_getElem? (i := 2) rfl)) (fun _ h9 => h9) rfl dX6_comparedWith_9 ?_
    refine lv_iload_n hx hb dX6_comparedWith_12 rfl (lv_at hl 1 rfl) ?_
    refine va_iald hx hb hK hP 10 0 wXg10 rfl hq.1 dX6_comparedWith_13 ?_
    have hq := hq.2
    exact W.iret (v := (σ.1 10 (p1).toNatClampNeg)) hx hb hr (fun t ht hW => ⟨⟨(σ.1 10 (p1).toNatClampNeg), σ, rfl, hq, by rw [ht]; exact hP, hD⟩, hS.F ht⟩) hS.2.2 dX6_comparedWith_14
/-! ArcGuesser$Net.membersOf(I)I -/
def X6_membersOf_b4 (p1 : Int32) (K4 : Sto → Int32 → Int32 → Prop) (Post : Int32 → Sto → Prop) (σ : Sto) (v2 : Int32) (v3 : Int32) : Prop :=
  (((σ.1 1 0) ≤ v3 → (Post v2 σ)) ∧ (¬ (σ.1 1 0) ≤ v3 → (vp_in v3 12 ∧ ((¬ (σ.1 8 (v3).toNatClampNeg) = p1 → (K4 σ v2 (v3 + (1 : Int32)))) ∧ ((σ.1 8 (v3).toNatClampNeg) = p1 → (K4 σ (v2 ||| ((1 : Int32) <<< (v3 &&& 31))) (v3 + (1 : Int32))))))))
def X6_membersOf_wp (σ : Sto) (p1 : Int32) (Post : Int32 → Sto → Prop) : Prop := ∀ (K4 : Sto → Int32 → Int32 → Prop), (∀ (σ : Sto) (v2 : Int32) (v3 : Int32), X6_membersOf_b4 p1 K4 Post σ v2 v3 → K4 σ v2 v3) → 
  (K4 σ (0 : Int32) (0 : Int32))
set_option maxHeartbeats 4000000 in
set_option maxRecDepth 100000 in
theorem mtX6_membersOf (l : Launch) (D : va_G) (ad : Nat → Nat) (cA : Nat → ClassId) (A : Nat → Prop) (σ : Sto) (p1 : Int32) (Post : Int32 → Sto → Prop) (hwp : X6_membersOf_wp σ p1 Post) : Met l yX6_membersOf wsX6_membersOf ({ frames := 0, cells := 0, slots := 0, locals := 0 }) (va_Pc [.ref (ad 1), .int p1] (stW D (tyX cA) nwX (wX ad cA) A σ)) (va_Qi Post (enW D (wX ad cA) A) A) 0 0 A := by
  refine Met.ofW (cc := cX6_membersOf) (maxL := 4) (ret := (some .int)) (by decide) rfl ?_
  intro p e s m args below meth c s₁ B hml hv
  obtain ⟨rfl, hA, hN, hP, hK, hD⟩ := hv
  have hx := B.exec
  have hb := B.bytes
  have hr := B.returns
  have hts := atoms_spec (ws := wsX6_membersOf) B.pre
  have hown : s.vm.findClass RX6 = some m.cls := findClass_of_methodNamed B.named
  have hlocks := B.notSynchronized
  have hiX6 : ∀ w ∈ wsX60, w ∈ wsX6_membersOf := by decide +kernel
  have hS : va_S A s.heap s.heap [] := va_S.rf
  have hl := lv_entry ([.ref (ad 1), .int p1]) (n := 4) (Nat.le_of_ble_eq_true rfl)
  rw [lg_entry_eq]
  generalize (lg_sl ([.ref (ad 1), .int p1]) ++ List.replicate (4 - (lg_sl ([.ref (ad 1), .int p1])).length) Slot.unset).toArray = ls at hl ⊢
  have hl : lv_has ls 4 [(0, .ref (ad 1)), (1, .int p1)] := hl
  obtain ⟨K4, hK4⟩ : ∃ K : Sto → Int32 → Int32 → Prop, K = fun (σ : Sto) (v2 : Int32) (v3 : Int32) => ∀ (H : Heap) (locs : List Loc) (ls : Array Slot), va_P D vwCl ((wX ad cA) σ) H → va_D A ((wX ad cA) σ) → va_S A s.heap H locs → lv_has ls 4 [(0, .ref (ad 1)), (1, .int p1), (2, .int v2), (3, .int v3)] → W p l e (headSpec wsX6_membersOf ({ frames := 0, cells := 0, slots := 0, locals := 0 })).room s m ([.ref (ad 1), .int p1] : List Value).toArray below meth c H locs 0 0 (MQ below (va_Qi Post (enW D (wX ad cA) A) A) ([.ref (ad 1), .int p1] : List Value).toArray s 0 0 A) (F0 m 4 ls []) := ⟨_, rfl⟩
  have hk4 : ∀ (σ : Sto) (v2 : Int32) (v3 : Int32), X6_membersOf_b4 p1 K4 Post σ v2 v3 → K4 σ v2 v3 := by
    intro σ v2 v3 hq
    rw [hK4]
    intro H locs ls hP hD hS hl
    unfold X6_membersOf_b4 at hq
    refine lv_iload_n hx hb dX6_membersOf_4 rfl (lv_at hl 3 rfl) ?_
    refine lv_aload_n hx hb dX6_membersOf_5 rfl (lv_at hl 0 rfl) ?_
    refine va_get (D := D) (ci := 6) (v := .int (σ.1 1 0)) (C := RX6) (T := TX6) (N := 13) hx hb hts hiX6 hown hK hP 1 wXg1 rfl 0 (by decide) (hts (.fieldLink RX6 39 "ArcGuesser$Net" "nodes" "I") (List.mem_of_getElem? (i := 1) rfl)) (fun _ h9 => h9) rfl dX6_membersOf_6 ?_
    refine lv_icmp_ge (tgt := 34) hx hb dX6_membersOf_9 (by decide) (fun hc => ?_) (fun hc => ?_)
    · have hq := hq.1 hc
      refine lv_iload_n hx hb dX6_membersOf_34 rfl (lv_at hl 2 rfl) ?_
      exact W.iret (v := v2) hx hb hr (fun t ht hW => ⟨⟨v2, σ, rfl, hq, by rw [ht]; exact hP, hD⟩, hS.F ht⟩) hS.2.2 dX6_membersOf_35
    · have hq := hq.2 hc
      refine lv_aload_n hx hb dX6_membersOf_12 rfl (lv_at hl 0 rfl) ?_
      refine va_get (D := D) (ci := 6) (v := .ref (ad 8)) (C := RX6) (T := TX6) (N := 13) hx hb hts hiX6 hown hK hP 1 wXg1 rfl 10 (by decide) (hts (.fieldLink RX6 30 "ArcGuesser$Net" "groups" "[I") (List.mem_of_getElem? (i := 2) rfl)) (fun _ h9 => h9) rfl dX6_membersOf_13 ?_
      refine lv_iload_n hx hb dX6_membersOf_16 rfl (lv_at hl 3 rfl) ?_
      refine va_iald hx hb hK hP 8 0 wXg8 rfl hq.1 dX6_membersOf_17 ?_
      have hq := hq.2
      refine lv_iload_n hx hb dX6_membersOf_18 rfl (lv_at hl 1 rfl) ?_
      refine lv_icmp_ne (tgt := 28) hx hb dX6_membersOf_19 (by decide) (fun hc => ?_) (fun hc => ?_)
      · have hq := hq.1 hc
        refine lv_iinc (v := (v3 + (1 : Int32))) (lv' := [(3, .int (v3 + (1 : Int32))), (0, .ref (ad 1)), (1, .int p1), (2, .int v2)]) hx hb dX6_membersOf_28 hl (k := 3) rfl (by rfl) (by decide) rfl (fun ls hl => ?_)
        refine lv_goto (tgt := 4) hx hb dX6_membersOf_31 (by decide) ?_
        rw [hK4] at hq
        exact hq _ _ _ hP hD hS (lv_sub hl [1, 2, 3, 0] rfl)
      · have hq := hq.2 hc
        refine lv_iload_n hx hb dX6_membersOf_22 rfl (lv_at hl 2 rfl) ?_
        refine lv_iconst (v := (1 : Int32)) hx hb dX6_membersOf_23 (by decide) ?_
        refine lv_iload_n hx hb dX6_membersOf_24 rfl (lv_at hl 3 rfl) ?_
        refine lv_ishl hx hb dX6_membersOf_25 ?_
        refine lv_ior hx hb dX6_membersOf_26 ?_
        refine lv_istore_n (lv' := [(2, .int (v2 ||| ((1 : Int32) <<< (v3 &&& 31)))), (0, .ref (ad 1)), (1, .int p1), (3, .int v3)]) hx hb dX6_membersOf_27 rfl hl (by decide) rfl (fun ls hl => ?_)
        refine lv_iinc (v := (v3 + (1 : Int32))) (lv' := [(3, .int (v3 + (1 : Int32))), (2, .int (v2 ||| ((1 : Int32) <<< (v3 &&& 31)))), (0, .ref (ad 1)), (1, .int p1)]) hx hb dX6_membersOf_28 hl (k := 3) rfl (by rfl) (by decide) rfl (fun ls hl => ?_)
        refine lv_goto (tgt := 4) hx hb dX6_membersOf_31 (by decide) ?_
        rw [hK4] at hq
        exact hq _ _ _ hP hD hS (lv_sub hl [2, 3, 1, 0] rfl)
  have hq := hwp K4 hk4
  refine lv_iconst (v := (0 : Int32)) hx hb dX6_membersOf_0 (by decide) ?_
  refine lv_istore_n (lv' := [(2, .int (0 : Int32)), (0, .ref (ad 1)), (1, .int p1)]) hx hb dX6_membersOf_1 rfl hl (by decide) rfl (fun ls hl => ?_)
  refine lv_iconst (v := (0 : Int32)) hx hb dX6_membersOf_2 (by decide) ?_
  refine lv_istore_n (lv' := [(3, .int (0 : Int32)), (2, .int (0 : Int32)), (0, .ref (ad 1)), (1, .int p1)]) hx hb dX6_membersOf_3 rfl hl (by decide) rfl (fun ls hl => ?_)
  rw [hK4] at hq
  exact hq _ _ _ hP hD hS (lv_sub hl [2, 3, 1, 0] rfl)
/-! ArcGuesser.isWithin(III)Z -/
def X7_isWithin_wp (σ : Sto) (p0 : Int32) (p1 : Int32) (p2 : Int32) (Post : Int32 → Sto → Prop) : Prop :=
  ((p0 < p1 → (Post (0 : Int32) σ)) ∧ (¬ p0 < p1 → ((p2 < p0 → (Post (0 : Int32) σ)) ∧ (¬ p2 < p0 → (Post (1 : Int32) σ)))))
set_option maxHeartbeats 4000000 in
set_option maxRecDepth 100000 in
theorem mtX7_isWithin (l : Launch) (D : va_G) (ad : Nat → Nat) (cA : Nat → ClassId) (A : Nat → Prop) (σ : Sto) (p0 : Int32) (p1 : Int32) (p2 : Int32) (Post : Int32 → Sto → Prop) (hwp : X7_isWithin_wp σ p0 p1 p2 Post) : Met l yX7_isWithin wsX7_isWithin ({ frames := 0, cells := 0, slots := 0, locals := 0 }) (va_Pc [.int p0, .int p1, .int p2] (stW D (tyX cA) nwX (wX ad cA) A σ)) (va_Qi Post (enW D (wX ad cA) A) A) 0 0 A := by
  refine Met.ofW (cc := cX7_isWithin) (maxL := 3) (ret := (some .boolean)) (by decide) rfl ?_
  intro p e s m args below meth c s₁ B hml hv
  obtain ⟨rfl, hA, hN, hP, hK, hD⟩ := hv
  have hx := B.exec
  have hb := B.bytes
  have hr := B.returns
  have hts := atoms_spec (ws := wsX7_isWithin) B.pre
  have hown : s.vm.findClass RX7 = some m.cls := findClass_of_methodNamed B.named
  have hlocks := B.notSynchronized
  have hS : va_S A s.heap s.heap [] := va_S.rf
  have hl := lv_entry ([.int p0, .int p1, .int p2]) (n := 3) (Nat.le_of_ble_eq_true rfl)
  rw [lg_entry_eq]
  generalize (lg_sl ([.int p0, .int p1, .int p2]) ++ List.replicate (3 - (lg_sl ([.int p0, .int p1, .int p2])).length) Slot.unset).toArray = ls at hl ⊢
  have hl : lv_has ls 3 [(0, .int p0), (1, .int p1), (2, .int p2)] := hl
  have hq := hwp
  unfold X7_isWithin_wp at hq
  refine lv_iload_n hx hb dX7_isWithin_0 rfl (lv_at hl 0 rfl) ?_
  refine lv_iload_n hx hb dX7_isWithin_1 rfl (lv_at hl 1 rfl) ?_
  refine lv_icmp_lt (tgt := 14) hx hb dX7_isWithin_2 (by decide) (fun hc => ?_) (fun hc => ?_)
  · have hq := hq.1 hc
    refine lv_iconst (v := (0 : Int32)) hx hb dX7_isWithin_14 (by decide) ?_
    exact W.zret (v := (0 : Int32)) hx hb hr rfl (fun t ht hW => ⟨⟨(0 : Int32), σ, rfl, hq, by rw [ht]; exact hP, hD⟩, hS.F ht⟩) hS.2.2 dX7_isWithin_15
  · have hq := hq.2 hc
    refine lv_iload_n hx hb dX7_isWithin_5 rfl (lv_at hl 0 rfl) ?_
    refine lv_iload_n hx hb dX7_isWithin_6 rfl (lv_at hl 2 rfl) ?_
    refine lv_icmp_gt (tgt := 14) hx hb dX7_isWithin_7 (by decide) (fun hc => ?_) (fun hc => ?_)
    · have hq := hq.1 hc
      refine lv_iconst (v := (0 : Int32)) hx hb dX7_isWithin_14 (by decide) ?_
      exact W.zret (v := (0 : Int32)) hx hb hr rfl (fun t ht hW => ⟨⟨(0 : Int32), σ, rfl, hq, by rw [ht]; exact hP, hD⟩, hS.F ht⟩) hS.2.2 dX7_isWithin_15
    · have hq := hq.2 hc
      refine lv_iconst (v := (1 : Int32)) hx hb dX7_isWithin_10 (by decide) ?_
      refine lv_goto (tgt := 15) hx hb dX7_isWithin_11 (by decide) ?_
      exact W.zret (v := (1 : Int32)) hx hb hr rfl (fun t ht hW => ⟨⟨(1 : Int32), σ, rfl, hq, by rw [ht]; exact hP, hD⟩, hS.F ht⟩) hS.2.2 dX7_isWithin_15
/-! ArcGuesser$Net.setLeads(IIZ)V -/
def X6_setLeads_wp (σ : Sto) (p1 : Int32) (p2 : Int32) (p3 : Int32) (Post : Sto → Prop) : Prop :=
  ((p3 = 0 → (vp_in p1 12 ∧ (vp_in p1 12 ∧ ((p3 = 0 → (vp_in p2 12 ∧ (vp_in p2 12 ∧ (Post (sI (sI σ 9 (p1).toNatClampNeg ((σ.1 9 (p1).toNatClampNeg) &&& (((1 : Int32) <<< (p2 &&& 31)) ^^^ (-1 : Int32)))) 10 (p2).toNatClampNeg ((σ.1 10 (p2).toNatClampNeg) &&& (((1 : Int32) <<< (p1 &&& 31)) ^^^ (-1 : Int32)))))))) ∧ (¬ p3 = 0 → (vp_in p2 12 ∧ (vp_in p2 12 ∧ (Post (sI (sI σ 9 (p1).toNatClampNeg ((σ.1 9 (p1).toNatClampNeg) &&& (((1 : Int32) <<< (p2 &&& 31)) ^^^ (-1 : Int32)))) 10 (p2).toNatClampNeg ((σ.1 10 (p2).toNatClampNeg) ||| ((1 : Int32) <<< (p1 &&& 31)))))))))))) ∧ (¬ p3 = 0 → (vp_in p1 12 ∧ (vp_in p1 12 ∧ ((p3 = 0 → (vp_in p2 12 ∧ (vp_in p2 12 ∧ (Post (sI (sI σ 9 (p1).toNatClampNeg ((σ.1 9 (p1).toNatClampNeg) ||| ((1 : Int32) <<< (p2 &&& 31)))) 10 (p2).toNatClampNeg ((σ.1 10 (p2).toNatClampNeg) &&& (((1 : Int32) <<< (p1 &&& 31)) ^^^ (-1 : Int32)))))))) ∧ (¬ p3 = 0 → (vp_in p2 12 ∧ (vp_in p2 12 ∧ (Post (sI (sI σ 9 (p1).toNatClampNeg ((σ.1 9 (p1).toNatClampNeg) ||| ((1 : Int32) <<< (p2 &&& 31)))) 10 (p2).toNatClampNeg ((σ.1 10 (p2).toNatClampNeg) ||| ((1 : Int32) <<< (p1 &&& 31)))))))))))))
set_option maxHeartbeats 4000000 in
set_option maxRecDepth 100000 in
theorem mtX6_setLeads (l : Launch) (D : va_G) (ad : Nat → Nat) (cA : Nat → ClassId) (A : Nat → Prop) (σ : Sto) (p1 : Int32) (p2 : Int32) (p3 : Int32) (Post : Sto → Prop) (hwp : X6_setLeads_wp σ p1 p2 p3 Post) : Met l yX6_setLeads wsX6_setLeads ({ frames := 0, cells := 0, slots := 0, locals := 0 }) (va_Pc [.ref (ad 1), .int p1, .int p2, .int p3] (stW D (tyX cA) nwX (wX ad cA) A σ)) (va_Qv Post (enW D (wX ad cA) A) A) 0 0 A := by
  refine Met.ofW (cc := cX6_setLeads) (maxL := 4) (ret := none) (by decide) rfl ?_
  intro p e s m args below meth c s₁ B hml hv
  obtain ⟨rfl, hA, hN, hP, hK, hD⟩ := hv
  have hx := B.exec
  have hb := B.bytes
  have hr := B.returns
  have hts := atoms_spec (ws := wsX6_setLeads) B.pre
  have hown : s.vm.findClass RX6 = some m.cls := findClass_of_methodNamed B.named
  have hlocks := B.notSynchronized
  have hiX6 : ∀ w ∈ wsX60, w ∈ wsX6_setLeads := by decide +kernel
  have hS : va_S A s.heap s.heap [] := va_S.rf
  have hl := lv_entry ([.ref (ad 1), .int p1, .int p2, .int p3]) (n := 4) (Nat.le_of_ble_eq_true rfl)
  rw [lg_entry_eq]
  generalize (lg_sl ([.ref (ad 1), .int p1, .int p2, .int p3]) ++ List.replicate (4 - (lg_sl ([.ref (ad 1), .int p1, .int p2, .int p3])).length) Slot.unset).toArray = ls at hl ⊢
  have hl : lv_has ls 4 [(0, .ref (ad 1)), (1, .int p1), (2, .int p2), (3, .int p3)] := hl
  have hq := hwp
  unfold X6_setLeads_wp at hq
  refine lv_aload_n hx hb dX6_setLeads_0 rfl (lv_at hl 0 rfl) ?_
  refine va_get (D := D) (ci := 6) (v := .ref (ad 9)) (C := RX6) (T := TX6) (N := 13) hx hb hts hiX6 hown hK hP 1 wXg1 rfl 11 (by decide) (hts (.fieldLink RX6 33 "ArcGuesser$Net" "out" "[I") (List.mem_of_getElem? (i := 1) rfl)) (fun _ h9 => h9) rfl dX6_setLeads_1 ?_
  refine lv_iload_n hx hb dX6_setLeads_4 rfl (lv_at hl 1 rfl) ?_
  refine lv_iload_n hx hb dX6_setLeads_5 rfl (lv_at hl 3 rfl) ?_
  refine lv_if_eq (tgt := 22) hx hb dX6_setLeads_6 (by decide) (fun hc => ?_) (fun hc => ?_)
  · have hq := hq.1 hc
    refine lv_aload_n hx hb dX6_setLeads_22 rfl (lv_at hl 0 rfl) ?_
    refine va_get (D := D) (ci := 6) (v := .ref (ad 9)) (C := RX6) (T := TX6) (N := 13) hx hb hts hiX6 hown hK hP 1 wXg1 rfl 11 (by decide) (hts (.fieldLink RX6 33 "ArcGuesser$Net" "out" "[I") (List.mem_of_getElem? (i := 1) rfl)) (fun _ h9 => h9) rfl dX6_setLeads_23 ?_
    refine lv_iload_n hx hb dX6_setLeads_26 rfl (lv_at hl 1 rfl) ?_
    refine va_iald hx hb hK hP 9 0 wXg9 rfl hq.1 dX6_setLeads_27 ?_
    have hq := hq.2
    refine lv_iconst (v := (1 : Int32)) hx hb dX6_setLeads_28 (by decide) ?_
    refine lv_iload_n hx hb dX6_setLeads_29 rfl (lv_at hl 2 rfl) ?_
    refine lv_ishl hx hb dX6_setLeads_30 ?_
    refine lv_iconst (v := (-1 : Int32)) hx hb dX6_setLeads_31 (by decide) ?_
    refine lv_ixor hx hb dX6_setLeads_32 ?_
    refine lv_iand hx hb dX6_setLeads_33 ?_
    refine va_iast hx hb hK hP hD hS 9 0 wXg9 rfl hq.1 dX6_setLeads_34 (fun H locs hP hD hS => ?_)
    have hP := wXsP9 hP
    have hD := wXsD9 hD
    have hq := hq.2
    refine lv_aload_n hx hb dX6_setLeads_35 rfl (lv_at hl 0 rfl) ?_
    refine va_get (D := D) (ci := 6) (v := .ref (ad 10)) (C := RX6) (T := TX6) (N := 13) hx hb hts hiX6 hown hK hP 1 wXg1 rfl 12 (by decide) (hts (.fieldLink RX6 36 "ArcGuesser$Net" "in" "[I") (List.mem_of_getElem? (i := 2) rfl)) (fun _ h9 => h9) rfl dX6_setLeads_36 ?_
    refine lv_iload_n hx hb dX6_setLeads_39 rfl (lv_at hl 2 rfl) ?_
    refine lv_iload_n hx hb dX6_setLeads_40 rfl (lv_at hl 3 rfl) ?_
    refine lv_if_eq (tgt := 57) hx hb dX6_setLeads_41 (by decide) (fun hc => ?_) (fun hc => ?_)
    · have hq := hq.1 hc
      refine lv_aload_n hx hb dX6_setLeads_57 rfl (lv_at hl 0 rfl) ?_
      refine va_get (D := D) (ci := 6) (v := .ref (ad 10)) (C := RX6) (T := TX6) (N := 13) hx hb hts hiX6 hown hK hP 1 wXg1 rfl 12 (by decide) (hts (.fieldLink RX6 36 "ArcGuesser$Net" "in" "[I") (List.mem_of_getElem? (i := 2) rfl)) (fun _ h9 => h9) rfl dX6_setLeads_58 ?_
      refine lv_iload_n hx hb dX6_setLeads_61 rfl (lv_at hl 2 rfl) ?_
      refine va_iald (f := σ.1 10) hx hb hK hP 10 0 wXg10 rfl hq.1 dX6_setLeads_62 ?_
      have hq := hq.2
      refine lv_iconst (v := (1 : Int32)) hx hb dX6_setLeads_63 (by decide) ?_
      refine lv_iload_n hx hb dX6_setLeads_64 rfl (lv_at hl 1 rfl) ?_
      refine lv_ishl hx hb dX6_setLeads_65 ?_
      refine lv_iconst (v := (-1 : Int32)) hx hb dX6_setLeads_66 (by decide) ?_
      refine lv_ixor hx hb dX6_setLeads_67 ?_
      refine lv_iand hx hb dX6_setLeads_68 ?_
      refine va_iast hx hb hK hP hD hS 10 0 wXg10 rfl hq.1 dX6_setLeads_69 (fun H locs hP hD hS => ?_)
      have hP := wXsP10 hP
      have hD := wXsD10 hD
      have hq := hq.2
      exact W.vret hx hb hr (fun t ht hW => ⟨⟨(sI (sI σ 9 (p1).toNatClampNeg ((σ.1 9 (p1).toNatClampNeg) &&& (((1 : Int32) <<< (p2 &&& 31)) ^^^ (-1 : Int32)))) 10 (p2).toNatClampNeg ((σ.1 10 (p2).toNatClampNeg) &&& (((1 : Int32) <<< (p1 &&& 31)) ^^^ (-1 : Int32)))), rfl, hq, by rw [ht]; exact hP, hD⟩, hS.F ht⟩) hS.2.2 dX6_setLeads_70
    · have hq := hq.2 hc
      refine lv_aload_n hx hb dX6_setLeads_44 rfl (lv_at hl 0 rfl) ?_
      refine va_get (D := D) (ci := 6) (v := .ref (ad 10)) (C := RX6) (T := TX6) (N := 13) hx hb hts hiX6 hown hK hP 1 wXg1 rfl 12 (by decide) (hts (.fieldLink RX6 36 "ArcGuesser$Net" "in" "[I") (List.mem_of_getElem? (i := 2) rfl)) (fun _ h9 => h9) rfl dX6_setLeads_45 ?_
      refine lv_iload_n hx hb dX6_setLeads_48 rfl (lv_at hl 2 rfl) ?_
      refine va_iald (f := σ.1 10) hx hb hK hP 10 0 wXg10 rfl hq.1 dX6_setLeads_49 ?_
      have hq := hq.2
      refine lv_iconst (v := (1 : Int32)) hx hb dX6_setLeads_50 (by decide) ?_
      refine lv_iload_n hx hb dX6_setLeads_51 rfl (lv_at hl 1 rfl) ?_
      refine lv_ishl hx hb dX6_setLeads_52 ?_
      refine lv_ior hx hb dX6_setLeads_53 ?_
      refine lv_goto (tgt := 69) hx hb dX6_setLeads_54 (by decide) ?_
      refine va_iast hx hb hK hP hD hS 10 0 wXg10 rfl hq.1 dX6_setLeads_69 (fun H locs hP hD hS => ?_)
      have hP := wXsP10 hP
      have hD := wXsD10 hD
      have hq := hq.2
      exact W.vret hx hb hr (fun t ht hW => ⟨⟨(sI (sI σ 9 (p1).toNatClampNeg ((σ.1 9 (p1).toNatClampNeg) &&& (((1 : Int32) <<< (p2 &&& 31)) ^^^ (-1 : Int32)))) 10 (p2).toNatClampNeg ((σ.1 10 (p2).toNatClampNeg) ||| ((1 : Int32) <<< (p1 &&& 31)))), rfl, hq, by rw [ht]; exact hP, hD⟩, hS.F ht⟩) hS.2.2 dX6_setLeads_70
  · have hq := hq.2 hc
    refine lv_aload_n hx hb dX6_setLeads_9 rfl (lv_at hl 0 rfl) ?_
    refine va_get (D := D) (ci := 6) (v := .ref (ad 9)) (C := RX6) (T := TX6) (N := 13) hx hb hts hiX6 hown hK hP 1 wXg1 rfl 11 (by decide) (hts (.fieldLink RX6 33 "ArcGuesser$Net" "out" "[I") (List.mem_of_getElem? (i := 1) rfl)) (fun _ h9 => h9) rfl dX6_setLeads_10 ?_
    refine lv_iload_n hx hb dX6_setLeads_13 rfl (lv_at hl 1 rfl) ?_
    refine va_iald hx hb hK hP 9 0 wXg9 rfl hq.1 dX6_setLeads_14 ?_
    have hq := hq.2
    refine lv_iconst (v := (1 : Int32)) hx hb dX6_setLeads_15 (by decide) ?_
    refine lv_iload_n hx hb dX6_setLeads_16 rfl (lv_at hl 2 rfl) ?_
    refine lv_ishl hx hb dX6_setLeads_17 ?_
    refine lv_ior hx hb dX6_setLeads_18 ?_
    refine lv_goto (tgt := 34) hx hb dX6_setLeads_19 (by decide) ?_
    refine va_iast hx hb hK hP hD hS 9 0 wXg9 rfl hq.1 dX6_setLeads_34 (fun H locs hP hD hS => ?_)
    have hP := wXsP9 hP
    have hD := wXsD9 hD
    have hq := hq.2
    refine lv_aload_n hx hb dX6_setLeads_35 rfl (lv_at hl 0 rfl) ?_
    refine va_get (D := D) (ci := 6) (v := .ref (ad 10)) (C := RX6) (T := TX6) (N := 13) hx hb hts hiX6 hown hK hP 1 wXg1 rfl 12 (by decide) (hts (.fieldLink RX6 36 "ArcGuesser$Net" "in" "[I") (List.mem_of_getElem? (i := 2) rfl)) (fun _ h9 => h9) rfl dX6_setLeads_36 ?_
    refine lv_iload_n hx hb dX6_setLeads_39 rfl (lv_at hl 2 rfl) ?_
    refine lv_iload_n hx hb dX6_setLeads_40 rfl (lv_at hl 3 rfl) ?_
    refine lv_if_eq (tgt := 57) hx hb dX6_setLeads_41 (by decide) (fun hc => ?_) (fun hc => ?_)
    · have hq := hq.1 hc
      refine lv_aload_n hx hb dX6_setLeads_57 rfl (lv_at hl 0 rfl) ?_
      refine va_get (D := D) (ci := 6) (v := .ref (ad 10)) (C := RX6) (T := TX6) (N := 13) hx hb hts hiX6 hown hK hP 1 wXg1 rfl 12 (by decide) (hts (.fieldLink RX6 36 "ArcGuesser$Net" "in" "[I") (List.mem_of_getElem? (i := 2) rfl)) (fun _ h9 => h9) rfl dX6_setLeads_58 ?_
      refine lv_iload_n hx hb dX6_setLeads_61 rfl (lv_at hl 2 rfl) ?_
      refine va_iald (f := σ.1 10) hx hb hK hP 10 0 wXg10 rfl hq.1 dX6_setLeads_62 ?_
      have hq := hq.2
      refine lv_iconst (v := (1 : Int32)) hx hb dX6_setLeads_63 (by decide) ?_
      refine lv_iload_n hx hb dX6_setLeads_64 rfl (lv_at hl 1 rfl) ?_
      refine lv_ishl hx hb dX6_setLeads_65 ?_
      refine lv_iconst (v := (-1 : Int32)) hx hb dX6_setLeads_66 (by decide) ?_
      refine lv_ixor hx hb dX6_setLeads_67 ?_
      refine lv_iand hx hb dX6_setLeads_68 ?_
      refine va_iast hx hb hK hP hD hS 10 0 wXg10 rfl hq.1 dX6_setLeads_69 (fun H locs hP hD hS => ?_)
      have hP := wXsP10 hP
      have hD := wXsD10 hD
      have hq := hq.2
      exact W.vret hx hb hr (fun t ht hW => ⟨⟨(sI (sI σ 9 (p1).toNatClampNeg ((σ.1 9 (p1).toNatClampNeg) ||| ((1 : Int32) <<< (p2 &&& 31)))) 10 (p2).toNatClampNeg ((σ.1 10 (p2).toNatClampNeg) &&& (((1 : Int32) <<< (p1 &&& 31)) ^^^ (-1 : Int32)))), rfl, hq, by rw [ht]; exact hP, hD⟩, hS.F ht⟩) hS.2.2 dX6_setLeads_70
    · have hq := hq.2 hc
      refine lv_aload_n hx hb dX6_setLeads_44 rfl (lv_at hl 0 rfl) ?_
      refine va_get (D := D) (ci := 6) (v := .ref (ad 10)) (C := RX6) (T := TX6) (N := 13) hx hb hts hiX6 hown hK hP 1 wXg1 rfl 12 (by decide) (hts (.fieldLink RX6 36 "ArcGuesser$Net" "in" "[I") (List.mem_of_getElem? (i := 2) rfl)) (fun _ h9 => h9) rfl dX6_setLeads_45 ?_
      refine lv_iload_n hx hb dX6_setLeads_48 rfl (lv_at hl 2 rfl) ?_
      refine va_iald (f := σ.1 10) hx hb hK hP 10 0 wXg10 rfl hq.1 dX6_setLeads_49 ?_
      have hq := hq.2
      refine lv_iconst (v := (1 : Int32)) hx hb dX6_setLeads_50 (by decide) ?_
      refine lv_iload_n hx hb dX6_setLeads_51 rfl (lv_at hl 1 rfl) ?_
      refine lv_ishl hx hb dX6_setLeads_52 ?_
      refine lv_ior hx hb dX6_setLeads_53 ?_
      refine lv_goto (tgt := 69) hx hb dX6_setLeads_54 (by decide) ?_
      refine va_iast hx hb hK hP hD hS 10 0 wXg10 rfl hq.1 dX6_setLeads_69 (fun H locs hP hD hS => ?_)
      have hP := wXsP10 hP
      have hD := wXsD10 hD
      have hq := hq.2
      exact W.vret hx hb hr (fun t ht hW => ⟨⟨(sI (sI σ 9 (p1).toNatClampNeg ((σ.1 9 (p1).toNatClampNeg) ||| ((1 : Int32) <<< (p2 &&& 31)))) 10 (p2).toNatClampNeg ((σ.1 10 (p2).toNatClampNeg) ||| ((1 : Int32) <<< (p1 &&& 31)))), rfl, hq, by rw [ht]; exact hP, hD⟩, hS.F ht⟩) hS.2.2 dX6_setLeads_70
/-! ArcGuesser$Net.setHidden(IZ)V -/
def X6_setHidden_wp (σ : Sto) (p1 : Int32) (p2 : Int32) (Post : Sto → Prop) : Prop :=
  (vp_in p1 132 ∧ (vp_in p1 132 ∧ ((p2 = 0 → (vp_in p1 132 ∧ ((¬ p2 = 0 → (X6_setLeads_wp (sI σ 4 (p1).toNatClampNeg (1 : Int32)) (σ.1 2 (p1).toNatClampNeg) (σ.1 3 (p1).toNatClampNeg) (0 : Int32) (fun σ1 => (((σ1.1 1 1) = (1 : Int32) → (Post σ1)) ∧ (¬ (σ1.1 1 1) = (1 : Int32) → ((¬ p2 = 0 → (X6_setLeads_wp σ1 (σ.1 3 (p1).toNatClampNeg) (σ.1 2 (p1).toNatClampNeg) (0 : Int32) (fun σ2 => (Post σ2)))) ∧ (p2 = 0 → (X6_setLeads_wp σ1 (σ.1 3 (p1).toNatClampNeg) (σ.1 2 (p1).toNatClampNeg) (1 : Int32) (fun σ3 => (Post σ3)))))))))) ∧ (p2 = 0 → (X6_setLeads_wp (sI σ 4 (p1).toNatClampNeg (1 : Int32)) (σ.1 2 (p1).toNatClampNeg) (σ.1 3 (p1).toNatClampNeg) (1 : Int32) (fun σ4 => (((σ4.1 1 1) = (1 : Int32) → (Post σ4)) ∧ (¬ (σ4.1 1 1) = (1 : Int32) → ((¬ p2 = 0 → (X6_setLeads_wp σ4 (σ.1 3 (p1).toNatClampNeg) (σ.1 2 (p1).toNatClampNeg) (0 : Int32) (fun σ5 => (Post σ5)))) ∧ (p2 = 0 → (X6_setLeads_wp σ4 (σ.1 3 (p1).toNatClampNeg) (σ.1 2 (p1).toNatClampNeg) (1 : Int32) (fun σ6 => (Post σ6))))))))))))) ∧ (¬ p2 = 0 → (vp_in p1 132 ∧ ((¬ p2 = 0 → (X6_setLeads_wp (sI σ 4 (p1).toNatClampNeg (2 : Int32)) (σ.1 2 (p1).toNatClampNeg) (σ.1 3 (p1).toNatClampNeg) (0 : Int32) (fun σ7 => (((σ7.1 1 1) = (1 : Int32) → (Post σ7)) ∧ (¬ (σ7.1 1 1) = (1 : Int32) → ((¬ p2 = 0 → (X6_setLeads_wp σ7 (σ.1 3 (p1).toNatClampNeg) (σ.1 2 (p1).toNatClampNeg) (0 : Int32) (fun σ8 => (Post σ8)))) ∧ (p2 = 0 → (X6_setLeads_wp σ7 (σ.1 3 (p1).toNatClampNeg) (σ.1 2 (p1).toNatClampNeg) (1 : Int32) (fun σ9 => (Post σ9)))))))))) ∧ (p2 = 0 → (X6_setLeads_wp (sI σ 4 (p1).toNatClampNeg (2 : Int32)) (σ.1 2 (p1).toNatClampNeg) (σ.1 3 (p1).toNatClampNeg) (1 : Int32) (fun σ10 => (((σ10.1 1 1) = (1 : Int32) → (Post σ10)) ∧ (¬ (σ10.1 1 1) = (1 : Int32) → ((¬ p2 = 0 → (X6_setLeads_wp σ10 (σ.1 3 (p1).toNatClampNeg) (σ.1 2 (p1).toNatClampNeg) (0 : Int32) (fun σ11 => (Post σ11)))) ∧ (p2 = 0 → (X6_setLeads_wp σ10 (σ.1 3 (p1).toNatClampNeg) (σ.1 2 (p1).toNatClampNeg) (1 : Int32) (fun σ12 => (Post σ12))))))))))))))))
set_option maxHeartbeats 4000000 in
set_option maxRecDepth 100000 in
theorem mtX6_setHidden (l : Launch) (D : va_G) (ad : Nat → Nat) (cA : Nat → ClassId) (A : Nat → Prop) (σ : Sto) (p1 : Int32) (p2 : Int32) (Post : Sto → Prop) (hwp : X6_setHidden_wp σ p1 p2 Post) : Met l yX6_setHidden wsX6_setHidden ({ frames := 1, cells := 0, slots := 0, locals := 23 }) (va_Pc [.ref (ad 1), .int p1, .int p2] (stW D (tyX cA) nwX (wX ad cA) A σ)) (va_Qv Post (enW D (wX ad cA) A) A) 0 0 A := by
  refine Met.ofW (cc := cX6_setHidden) (maxL := 5) (ret := none) (by decide) rfl ?_
  intro p e s m args below meth c s₁ B hml hv
  obtain ⟨rfl, hA, hN, hP, hK, hD⟩ := hv
  have hx := B.exec
  have hb := B.bytes
  have hr := B.returns
  have hts := atoms_spec (ws := wsX6_setHidden) B.pre
  have hown : s.vm.findClass RX6 = some m.cls := findClass_of_methodNamed B.named
  have hlocks := B.notSynchronized
  have hiX6 : ∀ w ∈ wsX60, w ∈ wsX6_setHidden := by decide +kernel
  have hS : va_S A s.heap s.heap [] := va_S.rf
  have hl := lv_entry ([.ref (ad 1), .int p1, .int p2]) (n := 5) (Nat.le_of_ble_eq_true rfl)
  rw [lg_entry_eq]
  generalize (lg_sl ([.ref (ad 1), .int p1, .int p2]) ++ List.replicate (5 - (lg_sl ([.ref (ad 1), .int p1, .int p2])).length) Slot.unset).toArray = ls at hl ⊢
  have hl : lv_has ls 5 [(0, .ref (ad 1)), (1, .int p1), (2, .int p2)] := hl
  have hq := hwp
  unfold X6_setHidden_wp at hq
  refine lv_aload_n hx hb dX6_setHidden_0 rfl (lv_at hl 0 rfl) ?_
  refine va_get (D := D) (ci := 6) (v := .ref (ad 2)) (C := RX6) (T := TX6) (N := 13) hx hb hts hiX6 hown hK hP 1 wXg1 rfl 4 (by decide) (hts (.fieldLink RX6 9 "ArcGuesser$Net" "from" "[I") (List.mem_of_getElem? (i := 1) rfl)) (fun _ h9 => h9) rfl dX6_setHidden_1 ?_
  refine lv_iload_n hx hb dX6_setHidden_4 rfl (lv_at hl 1 rfl) ?_
  refine va_iald hx hb hK hP 2 0 wXg2 rfl hq.1 dX6_setHidden_5 ?_
  have hq := hq.2
  refine lv_istore_n (lv' := [(3, .int (σ.1 2 (p1).toNatClampNeg)), (0, .ref (ad 1)), (1, .int p1), (2, .int p2)]) hx hb dX6_setHidden_6 rfl hl (by decide) rfl (fun ls hl => ?_)
  refine lv_aload_n hx hb dX6_setHidden_7 rfl (lv_at hl 1 rfl) ?_
  refine va_get (D := D) (ci := 6) (v := .ref (ad 3)) (C := RX6) (T := TX6) (N := 13) hx hb hts hiX6 hown hK hP 1 wXg1 rfl 5 (by decide) (hts (.fieldLink RX6 15 "ArcGuesser$Net" "to" "[I") (List.mem_of_getElem? (i := 2) rfl)) (fun _ h9 => h9) rfl dX6_setHidden_8 ?_
  refine lv_iload_n hx hb dX6_setHidden_11 rfl (lv_at hl 2 rfl) ?_
  refine va_iald hx hb hK hP 3 0 wXg3 rfl hq.1 dX6_setHidden_12 ?_
  have hq := hq.2
  refine lv_istore (lv' := [(4, .int (σ.1 3 (p1).toNatClampNeg)), (3, .int (σ.1 2 (p1).toNatClampNeg)), (0, .ref (ad 1)), (1, .int p1), (2, .int p2)]) hx hb dX6_setHidden_13 hl (by decide) rfl (fun ls hl => ?_)
  refine lv_aload_n hx hb dX6_setHidden_15 rfl (lv_at hl 2 rfl) ?_
  refine va_get (D := D) (ci := 6) (v := .ref (ad 4)) (C := RX6) (T := TX6) (N := 13) hx hb hts hiX6 hown hK hP 1 wXg1 rfl 6 (by decide) (hts (.fieldLink RX6 18 "ArcGuesser$Net" "states" "[I") (List.mem_of_getElem? (i := 3) rfl)) (fun _ h9 => h9) rfl dX6_setHidden_16 ?_
  refine lv_iload_n hx hb dX6_setHidden_19 rfl (lv_at hl 3 rfl) ?_
  refine lv_iload_n hx hb dX6_setHidden_20 rfl (lv_at hl 4 rfl) ?_
  refine lv_if_eq (tgt := 28) hx hb dX6_setHidden_21 (by decide) (fun hc => ?_) (fun hc => ?_)
  · have hq := hq.1 hc
    refine lv_iconst (v := (1 : Int32)) hx hb dX6_setHidden_28 (by decide) ?_
    refine va_iast hx hb hK hP hD hS 4 0 wXg4 rfl hq.1 dX6_setHidden_29 (fun H locs hP hD hS => ?_)
    have hP := wXsP4 hP
    have hD := wXsD4 hD
    have hq := hq.2
    refine lv_aload_n hx hb dX6_setHidden_30 rfl (lv_at hl 2 rfl) ?_
    refine lv_iload_n hx hb dX6_setHidden_31 rfl (lv_at hl 1 rfl) ?_
    refine lv_iload hx hb dX6_setHidden_32 (lv_at hl 0 rfl) ?_
    refine lv_iload_n hx hb dX6_setHidden_34 rfl (lv_at hl 4 rfl) ?_
    refine lv_if_ne (tgt := 42) hx hb dX6_setHidden_35 (by decide) (fun hc => ?_) (fun hc => ?_)
    · have hq := hq.1 hc
      refine lv_iconst (v := (0 : Int32)) hx hb dX6_setHidden_42 (by decide) ?_
      refine w_callv (va_runV (As := [.int (σ.1 2 (p1).toNatClampNeg), .int (σ.1 3 (p1).toNatClampNeg), .int (0 : Int32)]) (rest := []) ⟨hx, hb, hml, hown, hts⟩ (mtX6_setLeads l D ad cA A (sI σ 4 (p1).toNatClampNeg (1 : Int32)) (σ.1 2 (p1).toNatClampNeg) (σ.1 3 (p1).toNatClampNeg) (0 : Int32) _ hq) (cwV 3 hts gX6_setHidden_X6_setLeads rfl rfl rfl (by decide +kernel) ⟨Nat.le_of_ble_eq_true rfl, Nat.le_of_ble_eq_true rfl⟩) ⟨stW_blind nwX_ok, va_recv hK hP (ci := 6) (q0 := 1) rfl wXg1, stW_pass hA hS hN hK hP hD nwX_ok⟩ rfl rfl hl.1 rfl (lv_room (Nat.le_of_ble_eq_true rfl)) dX6_setHidden_43 ⟨Nat.le_of_ble_eq_true rfl, Nat.le_of_ble_eq_true rfl⟩) hS (fun σ1 H locs hq hP hD hS => ?_)
      refine lv_aload_n hx hb dX6_setHidden_46 rfl (lv_at hl 2 rfl) ?_
      refine va_get (D := D) (ci := 6) (v := .int (σ1.1 1 1)) (C := RX6) (T := TX6) (N := 13) hx hb hts hiX6 hown hK hP 1 wXg1 rfl 1 (by decide) (hts (.fieldLink RX6 43 "ArcGuesser$Net" "sort" "I") (List.mem_of_getElem? (i := 4) rfl)) (fun _ h9 => h9) rfl dX6_setHidden_47 ?_
      refine lv_iconst (v := (1 : Int32)) hx hb dX6_setHidden_50 (by decide) ?_
      refine lv_icmp_eq (tgt := 70) hx hb dX6_setHidden_51 (by decide) (fun hc => ?_) (fun hc => ?_)
      · have hq := hq.1 hc
        exact W.vret hx hb hr (fun t ht hW => ⟨⟨σ1, rfl, hq, by rw [ht]; exact hP, hD⟩, hS.F ht⟩) hS.2.2 dX6_setHidden_70
      · have hq := hq.2 hc
        refine lv_aload_n hx hb dX6_setHidden_54 rfl (lv_at hl 2 rfl) ?_
        refine lv_iload hx hb dX6_setHidden_55 (lv_at hl 0 rfl) ?_
        refine lv_iload_n hx hb dX6_setHidden_57 rfl (lv_at hl 1 rfl) ?_
        refine lv_iload_n hx hb dX6_setHidden_58 rfl (lv_at hl 4 rfl) ?_
        refine lv_if_ne (tgt := 66) hx hb dX6_setHidden_59 (by decide) (fun hc => ?_) (fun hc => ?_)
        · have hq := hq.1 hc
          refine lv_iconst (v := (0 : Int32)) hx hb dX6_setHidden_66 (by decide) ?_
          refine w_callv (va_runV (As := [.int (σ.1 3 (p1).toNatClampNeg), .int (σ.1 2 (p1).toNatClampNeg), .int (0 : Int32)]) (rest := []) ⟨hx, hb, hml, hown, hts⟩ (mtX6_setLeads l D ad cA A σ1 (σ.1 3 (p1).toNatClampNeg) (σ.1 2 (p1).toNatClampNeg) (0 : Int32) _ hq) (cwV 3 hts gX6_setHidden_X6_setLeads rfl rfl rfl (by decide +kernel) ⟨Nat.le_of_ble_eq_true rfl, Nat.le_of_ble_eq_true rfl⟩) ⟨stW_blind nwX_ok, va_recv hK hP (ci := 6) (q0 := 1) rfl wXg1, stW_pass hA hS hN hK hP hD nwX_ok⟩ rfl rfl hl.1 rfl (lv_room (Nat.le_of_ble_eq_true rfl)) dX6_setHidden_67 ⟨Nat.le_of_ble_eq_true rfl, Nat.le_of_ble_eq_true rfl⟩) hS (fun σ2 H locs hq hP hD hS => ?_)
          exact W.vret hx hb hr (fun t ht hW => ⟨⟨σ2, rfl, hq, by rw [ht]; exact hP, hD⟩, hS.F ht⟩) hS.2.2 dX6_setHidden_70
        · have hq := hq.2 hc
          refine lv_iconst (v := (1 : Int32)) hx hb dX6_setHidden_62 (by decide) ?_
          refine lv_goto (tgt := 67) hx hb dX6_setHidden_63 (by decide) ?_
          refine w_callv (va_runV (As := [.int (σ.1 3 (p1).toNatClampNeg), .int (σ.1 2 (p1).toNatClampNeg), .int (1 : Int32)]) (rest := []) ⟨hx, hb, hml, hown, hts⟩ (mtX6_setLeads l D ad cA A σ1 (σ.1 3 (p1).toNatClampNeg) (σ.1 2 (p1).toNatClampNeg) (1 : Int32) _ hq) (cwV 3 hts gX6_setHidden_X6_setLeads rfl rfl rfl (by decide +kernel) ⟨Nat.le_of_ble_eq_true rfl, Nat.le_of_ble_eq_true rfl⟩) ⟨stW_blind nwX_ok, va_recv hK hP (ci := 6) (q0 := 1) rfl wXg1, stW_pass hA hS hN hK hP hD nwX_ok⟩ rfl rfl hl.1 rfl (lv_room (Nat.le_of_ble_eq_true rfl)) dX6_setHidden_67 ⟨Nat.le_of_ble_eq_true rfl, Nat.le_of_ble_eq_true rfl⟩) hS (fun σ3 H locs hq hP hD hS => ?_)
          exact W.vret hx hb hr (fun t ht hW => ⟨⟨σ3, rfl, hq, by rw [ht]; exact hP, hD⟩, hS.F ht⟩) hS.2.2 dX6_setHidden_70
    · have hq := hq.2 hc
      refine lv_iconst (v := (1 : Int32)) hx hb dX6_setHidden_38 (by decide) ?_
      refine lv_goto (tgt := 43) hx hb dX6_setHidden_39 (by decide) ?_
      refine w_callv (va_runV (As := [.int (σ.1 2 (p1).toNatClampNeg), .int (σ.1 3 (p1).toNatClampNeg), .int (1 : Int32)]) (rest := []) ⟨hx, hb, hml, hown, hts⟩ (mtX6_setLeads l D ad cA A (sI σ 4 (p1).toNatClampNeg (1 : Int32)) (σ.1 2 (p1).toNatClampNeg) (σ.1 3 (p1).toNatClampNeg) (1 : Int32) _ hq) (cwV 3 hts gX6_setHidden_X6_setLeads rfl rfl rfl (by decide +kernel) ⟨Nat.le_of_ble_eq_true rfl, Nat.le_of_ble_eq_true rfl⟩) ⟨stW_blind nwX_ok, va_recv hK hP (ci := 6) (q0 := 1) rfl wXg1, stW_pass hA hS hN hK hP hD nwX_ok⟩ rfl rfl hl.1 rfl (lv_room (Nat.le_of_ble_eq_true rfl)) dX6_setHidden_43 ⟨Nat.le_of_ble_eq_true rfl, Nat.le_of_ble_eq_true rfl⟩) hS (fun σ4 H locs hq hP hD hS => ?_)
      refine lv_aload_n hx hb dX6_setHidden_46 rfl (lv_at hl 2 rfl) ?_
      refine va_get (D := D) (ci := 6) (v := .int (σ4.1 1 1)) (C := RX6) (T := TX6) (N := 13) hx hb hts hiX6 hown hK hP 1 wXg1 rfl 1 (by decide) (hts (.fieldLink RX6 43 "ArcGuesser$Net" "sort" "I") (List.mem_of_getElem? (i := 4) rfl)) (fun _ h9 => h9) rfl dX6_setHidden_47 ?_
      refine lv_iconst (v := (1 : Int32)) hx hb dX6_setHidden_50 (by decide) ?_
      refine lv_icmp_eq (tgt := 70) hx hb dX6_setHidden_51 (by decide) (fun hc => ?_) (fun hc => ?_)
      · have hq := hq.1 hc
        exact W.vret hx hb hr (fun t ht hW => ⟨⟨σ4, rfl, hq, by rw [ht]; exact hP, hD⟩, hS.F ht⟩) hS.2.2 dX6_setHidden_70
      · have hq := hq.2 hc
        refine lv_aload_n hx hb dX6_setHidden_54 rfl (lv_at hl 2 rfl) ?_
        refine lv_iload hx hb dX6_setHidden_55 (lv_at hl 0 rfl) ?_
        refine lv_iload_n hx hb dX6_setHidden_57 rfl (lv_at hl 1 rfl) ?_
        refine lv_iload_n hx hb dX6_setHidden_58 rfl (lv_at hl 4 rfl) ?_
        refine lv_if_ne (tgt := 66) hx hb dX6_setHidden_59 (by decide) (fun hc => ?_) (fun hc => ?_)
        · have hq := hq.1 hc
          refine lv_iconst (v := (0 : Int32)) hx hb dX6_setHidden_66 (by decide) ?_
          refine w_callv (va_runV (As := [.int (σ.1 3 (p1).toNatClampNeg), .int (σ.1 2 (p1).toNatClampNeg), .int (0 : Int32)]) (rest := []) ⟨hx, hb, hml, hown, hts⟩ (mtX6_setLeads l D ad cA A σ4 (σ.1 3 (p1).toNatClampNeg) (σ.1 2 (p1).toNatClampNeg) (0 : Int32) _ hq) (cwV 3 hts gX6_setHidden_X6_setLeads rfl rfl rfl (by decide +kernel) ⟨Nat.le_of_ble_eq_true rfl, Nat.le_of_ble_eq_true rfl⟩) ⟨stW_blind nwX_ok, va_recv hK hP (ci := 6) (q0 := 1) rfl wXg1, stW_pass hA hS hN hK hP hD nwX_ok⟩ rfl rfl hl.1 rfl (lv_room (Nat.le_of_ble_eq_true rfl)) dX6_setHidden_67 ⟨Nat.le_of_ble_eq_true rfl, Nat.le_of_ble_eq_true rfl⟩) hS (fun σ5 H locs hq hP hD hS => ?_)
          exact W.vret hx hb hr (fun t ht hW => ⟨⟨σ5, rfl, hq, by rw [ht]; exact hP, hD⟩, hS.F ht⟩) hS.2.2 dX6_setHidden_70
        · have hq := hq.2 hc
          refine lv_iconst (v := (1 : Int32)) hx hb dX6_setHidden_62 (by decide) ?_
          refine lv_goto (tgt := 67) hx hb dX6_setHidden_63 (by decide) ?_
          refine w_callv (va_runV (As := [.int (σ.1 3 (p1).toNatClampNeg), .int (σ.1 2 (p1).toNatClampNeg), .int (1 : Int32)]) (rest := []) ⟨hx, hb, hml, hown, hts⟩ (mtX6_setLeads l D ad cA A σ4 (σ.1 3 (p1).toNatClampNeg) (σ.1 2 (p1).toNatClampNeg) (1 : Int32) _ hq) (cwV 3 hts gX6_setHidden_X6_setLeads rfl rfl rfl (by decide +kernel) ⟨Nat.le_of_ble_eq_true rfl, Nat.le_of_ble_eq_true rfl⟩) ⟨stW_blind nwX_ok, va_recv hK hP (ci := 6) (q0 := 1) rfl wXg1, stW_pass hA hS hN hK hP hD nwX_ok⟩ rfl rfl hl.1 rfl (lv_room (Nat.le_of_ble_eq_true rfl)) dX6_setHidden_67 ⟨Nat.le_of_ble_eq_true rfl, Nat.le_of_ble_eq_true rfl⟩) hS (fun σ6 H locs hq hP hD hS => ?_)
          exact W.vret hx hb hr (fun t ht hW => ⟨⟨σ6, rfl, hq, by rw [ht]; exact hP, hD⟩, hS.F ht⟩) hS.2.2 dX6_setHidden_70
  · have hq := hq.2 hc
    refine lv_iconst (v := (2 : Int32)) hx hb dX6_setHidden_24 (by decide) ?_
    refine lv_goto (tgt := 29) hx hb dX6_setHidden_25 (by decide) ?_
    refine va_iast hx hb hK hP hD hS 4 0 wXg4 rfl hq.1 dX6_setHidden_29 (fun H locs hP hD hS => ?_)
    have hP := wXsP4 hP
    have hD := wXsD4 hD
    have hq := hq.2
    refine lv_aload_n hx hb dX6_setHidden_30 rfl (lv_at hl 2 rfl) ?_
    refine lv_iload_n hx hb dX6_setHidden_31 rfl (lv_at hl 1 rfl) ?_
    refine lv_iload hx hb dX6_setHidden_32 (lv_at hl 0 rfl) ?_
    refine lv_iload_n hx hb dX6_setHidden_34 rfl (lv_at hl 4 rfl) ?_
    refine lv_if_ne (tgt := 42) hx hb dX6_setHidden_35 (by decide) (fun hc => ?_) (fun hc => ?_)
    · have hq := hq.1 hc
      refine lv_iconst (v := (0 : Int32)) hx hb dX6_setHidden_42 (by decide) ?_
      refine w_callv (va_runV (As := [.int (σ.1 2 (p1).toNatClampNeg), .int (σ.1 3 (p1).toNatClampNeg), .int (0 : Int32)]) (rest := []) ⟨hx, hb, hml, hown, hts⟩ (mtX6_setLeads l D ad cA A (sI σ 4 (p1).toNatClampNeg (2 : Int32)) (σ.1 2 (p1).toNatClampNeg) (σ.1 3 (p1).toNatClampNeg) (0 : Int32) _ hq) (cwV 3 hts gX6_setHidden_X6_setLeads rfl rfl rfl (by decide +kernel) ⟨Nat.le_of_ble_eq_true rfl, Nat.le_of_ble_eq_true rfl⟩) ⟨stW_blind nwX_ok, va_recv hK hP (ci := 6) (q0 := 1) rfl wXg1, stW_pass hA hS hN hK hP hD nwX_ok⟩ rfl rfl hl.1 rfl (lv_room (Nat.le_of_ble_eq_true rfl)) dX6_setHidden_43 ⟨Nat.le_of_ble_eq_true rfl, Nat.le_of_ble_eq_true rfl⟩) hS (fun σ7 H locs hq hP hD hS => ?_)
      refine lv_aload_n hx hb dX6_setHidden_46 rfl (lv_at hl 2 rfl) ?_
      refine va_get (D := D) (ci := 6) (v := .int (σ7.1 1 1)) (C := RX6) (T := TX6) (N := 13) hx hb hts hiX6 hown hK hP 1 wXg1 rfl 1 (by decide) (hts (.fieldLink RX6 43 "ArcGuesser$Net" "sort" "I") (List.mem_of_getElem? (i := 4) rfl)) (fun _ h9 => h9) rfl dX6_setHidden_47 ?_
      refine lv_iconst (v := (1 : Int32)) hx hb dX6_setHidden_50 (by decide) ?_
      refine lv_icmp_eq (tgt := 70) hx hb dX6_setHidden_51 (by decide) (fun hc => ?_) (fun hc => ?_)
      · have hq := hq.1 hc
        exact W.vret hx hb hr (fun t ht hW => ⟨⟨σ7, rfl, hq, by rw [ht]; exact hP, hD⟩, hS.F ht⟩) hS.2.2 dX6_setHidden_70
      · have hq := hq.2 hc
        refine lv_aload_n hx hb dX6_setHidden_54 rfl (lv_at hl 2 rfl) ?_
        refine lv_iload hx hb dX6_setHidden_55 (lv_at hl 0 rfl) ?_
        refine lv_iload_n hx hb dX6_setHidden_57 rfl (lv_at hl 1 rfl) ?_
        refine lv_iload_n hx hb dX6_setHidden_58 rfl (lv_at hl 4 rfl) ?_
        refine lv_if_ne (tgt := 66) hx hb dX6_setHidden_59 (by decide) (fun hc => ?_) (fun hc => ?_)
        · have hq := hq.1 hc
          refine lv_iconst (v := (0 : Int32)) hx hb dX6_setHidden_66 (by decide) ?_
          refine w_callv (va_runV (As := [.int (σ.1 3 (p1).toNatClampNeg), .int (σ.1 2 (p1).toNatClampNeg), .int (0 : Int32)]) (rest := []) ⟨hx, hb, hml, hown, hts⟩ (mtX6_setLeads l D ad cA A σ7 (σ.1 3 (p1).toNatClampNeg) (σ.1 2 (p1).toNatClampNeg) (0 : Int32) _ hq) (cwV 3 hts gX6_setHidden_X6_setLeads rfl rfl rfl (by decide +kernel) ⟨Nat.le_of_ble_eq_true rfl, Nat.le_of_ble_eq_true rfl⟩) ⟨stW_blind nwX_ok, va_recv hK hP (ci := 6) (q0 := 1) rfl wXg1, stW_pass hA hS hN hK hP hD nwX_ok⟩ rfl rfl hl.1 rfl (lv_room (Nat.le_of_ble_eq_true rfl)) dX6_setHidden_67 ⟨Nat.le_of_ble_eq_true rfl, Nat.le_of_ble_eq_true rfl⟩) hS (fun σ8 H locs hq hP hD hS => ?_)
          exact W.vret hx hb hr (fun t ht hW => ⟨⟨σ8, rfl, hq, by rw [ht]; exact hP, hD⟩, hS.F ht⟩) hS.2.2 dX6_setHidden_70
        · have hq := hq.2 hc
          refine lv_iconst (v := (1 : Int32)) hx hb dX6_setHidden_62 (by decide) ?_
          refine lv_goto (tgt := 67) hx hb dX6_setHidden_63 (by decide) ?_
          refine w_callv (va_runV (As := [.int (σ.1 3 (p1).toNatClampNeg), .int (σ.1 2 (p1).toNatClampNeg), .int (1 : Int32)]) (rest := []) ⟨hx, hb, hml, hown, hts⟩ (mtX6_setLeads l D ad cA A σ7 (σ.1 3 (p1).toNatClampNeg) (σ.1 2 (p1).toNatClampNeg) (1 : Int32) _ hq) (cwV 3 hts gX6_setHidden_X6_setLeads rfl rfl rfl (by decide +kernel) ⟨Nat.le_of_ble_eq_true rfl, Nat.le_of_ble_eq_true rfl⟩) ⟨stW_blind nwX_ok, va_recv hK hP (ci := 6) (q0 := 1) rfl wXg1, stW_pass hA hS hN hK hP hD nwX_ok⟩ rfl rfl hl.1 rfl (lv_room (Nat.le_of_ble_eq_true rfl)) dX6_setHidden_67 ⟨Nat.le_of_ble_eq_true rfl, Nat.le_of_ble_eq_true rfl⟩) hS (fun σ9 H locs hq hP hD hS => ?_)
          exact W.vret hx hb hr (fun t ht hW => ⟨⟨σ9, rfl, hq, by rw [ht]; exact hP, hD⟩, hS.F ht⟩) hS.2.2 dX6_setHidden_70
    · have hq := hq.2 hc
      refine lv_iconst (v := (1 : Int32)) hx hb dX6_setHidden_38 (by decide) ?_
      refine lv_goto (tgt := 43) hx hb dX6_setHidden_39 (by decide) ?_
      refine w_callv (va_runV (As := [.int (σ.1 2 (p1).toNatClampNeg), .int (σ.1 3 (p1).toNatClampNeg), .int (1 : Int32)]) (rest := []) ⟨hx, hb, hml, hown, hts⟩ (mtX6_setLeads l D ad cA A (sI σ 4 (p1).toNatClampNeg (2 : Int32)) (σ.1 2 (p1).toNatClampNeg) (σ.1 3 (p1).toNatClampNeg) (1 : Int32) _ hq) (cwV 3 hts gX6_setHidden_X6_setLeads rfl rfl rfl (by decide +kernel) ⟨Nat.le_of_ble_eq_true rfl, Nat.le_of_ble_eq_true rfl⟩) ⟨stW_blind nwX_ok, va_recv hK hP (ci := 6) (q0 := 1) rfl wXg1, stW_pass hA hS hN hK hP hD nwX_ok⟩ rfl rfl hl.1 rfl (lv_room (Nat.le_of_ble_eq_true rfl)) dX6_setHidden_43 ⟨Nat.le_of_ble_eq_true rfl, Nat.le_of_ble_eq_true rfl⟩) hS (fun σ10 H locs hq hP hD hS => ?_)
      refine lv_aload_n hx hb dX6_setHidden_46 rfl (lv_at hl 2 rfl) ?_
      refine va_get (D := D) (ci := 6) (v := .int (σ10.1 1 1)) (C := RX6) (T := TX6) (N := 13) hx hb hts hiX6 hown hK hP 1 wXg1 rfl 1 (by decide) (hts (.fieldLink RX6 43 "ArcGuesser$Net" "sort" "I") (List.mem_of_getElem? (i := 4) rfl)) (fun _ h9 => h9) rfl dX6_setHidden_47 ?_
      refine lv_iconst (v := (1 : Int32)) hx hb dX6_setHidden_50 (by decide) ?_
      refine lv_icmp_eq (tgt := 70) hx hb dX6_setHidden_51 (by decide) (fun hc => ?_) (fun hc => ?_)
      · have hq := hq.1 hc
        exact W.vret hx hb hr (fun t ht hW => ⟨⟨σ10, rfl, hq, by rw [ht]; exact hP, hD⟩, hS.F ht⟩) hS.2.2 dX6_setHidden_70
      · have hq := hq.2 hc
        refine lv_aload_n hx hb dX6_setHidden_54 rfl (lv_at hl 2 rfl) ?_
        refine lv_iload hx hb dX6_setHidden_55 (lv_at hl 0 rfl) ?_
        refine lv_iload_n hx hb dX6_setHidden_57 rfl (lv_at hl 1 rfl) ?_
        refine lv_iload_n hx hb dX6_setHidden_58 rfl (lv_at hl 4 rfl) ?_
        refine lv_if_ne (tgt := 66) hx hb dX6_setHidden_59 (by decide) (fun hc => ?_) (fun hc => ?_)
        · have hq := hq.1 hc
          refine lv_iconst (v := (0 : Int32)) hx hb dX6_setHidden_66 (by decide) ?_
          refine w_callv (va_runV (As := [.int (σ.1 3 (p1).toNatClampNeg), .int (σ.1 2 (p1).toNatClampNeg), .int (0 : Int32)]) (rest := []) ⟨hx, hb, hml, hown, hts⟩ (mtX6_setLeads l D ad cA A σ10 (σ.1 3 (p1).toNatClampNeg) (σ.1 2 (p1).toNatClampNeg) (0 : Int32) _ hq) (cwV 3 hts gX6_setHidden_X6_setLeads rfl rfl rfl (by decide +kernel) ⟨Nat.le_of_ble_eq_true rfl, Nat.le_of_ble_eq_true rfl⟩) ⟨stW_blind nwX_ok, va_recv hK hP (ci := 6) (q0 := 1) rfl wXg1, stW_pass hA hS hN hK hP hD nwX_ok⟩ rfl rfl hl.1 rfl (lv_room (Nat.le_of_ble_eq_true rfl)) dX6_setHidden_67 ⟨Nat.le_of_ble_eq_true rfl, Nat.le_of_ble_eq_true rfl⟩) hS (fun σ11 H locs hq hP hD hS => ?_)
          exact W.vret hx hb hr (fun t ht hW => ⟨⟨σ11, rfl, hq, by rw [ht]; exact hP, hD⟩, hS.F ht⟩) hS.2.2 dX6_setHidden_70
        · have hq := hq.2 hc
          refine lv_iconst (v := (1 : Int32)) hx hb dX6_setHidden_62 (by decide) ?_
          refine lv_goto (tgt := 67) hx hb dX6_setHidden_63 (by decide) ?_
          refine w_callv (va_runV (As := [.int (σ.1 3 (p1).toNatClampNeg), .int (σ.1 2 (p1).toNatClampNeg), .int (1 : Int32)]) (rest := []) ⟨hx, hb, hml, hown, hts⟩ (mtX6_setLeads l D ad cA A σ10 (σ.1 3 (p1).toNatClampNeg) (σ.1 2 (p1).toNatClampNeg) (1 : Int32) _ hq) (cwV 3 hts gX6_setHidden_X6_setLeads rfl rfl rfl (by decide +kernel) ⟨Nat.le_of_ble_eq_true rfl, Nat.le_of_ble_eq_true rfl⟩) ⟨stW_blind nwX_ok, va_recv hK hP (ci := 6) (q0 := 1) rfl wXg1, stW_pass hA hS hN hK hP hD nwX_ok⟩ rfl rfl hl.1 rfl (lv_room (Nat.le_of_ble_eq_true rfl)) dX6_setHidden_67 ⟨Nat.le_of_ble_eq_true rfl, Nat.le_of_ble_eq_true rfl⟩) hS (fun σ12 H locs hq hP hD hS => ?_)
          exact W.vret hx hb hr (fun t ht hW => ⟨⟨σ12, rfl, hq, by rw [ht]; exact hP, hD⟩, hS.F ht⟩) hS.2.2 dX6_setHidden_70
/-! ArcGuesser$Net.addArc(II)V -/
def X6_addArc_wp (σ : Sto) (p1 : Int32) (p2 : Int32) (Post : Sto → Prop) : Prop :=
  (vp_in (σ.1 1 3) 132 ∧ (vp_in p1 132 ∧ (X6_setHidden_wp (sI (sI (sI σ 6 ((σ.1 1 3)).toNatClampNeg p1) 1 3 ((σ.1 1 3) + (1 : Int32))) 5 (p1).toNatClampNeg p2) p1 (0 : Int32) (fun σ1 => (Post σ1)))))
set_option maxHeartbeats 4000000 in
set_option maxRecDepth 100000 in
theorem mtX6_addArc (l : Launch) (D : va_G) (ad : Nat → Nat) (cA : Nat → ClassId) (A : Nat → Prop) (σ : Sto) (p1 : Int32) (p2 : Int32) (Post : Sto → Prop) (hwp : X6_addArc_wp σ p1 p2 Post) : Met l yX6_addArc wsX6_addArc ({ frames := 2, cells := 0, slots := 0, locals := 47 }) (va_Pc [.ref (ad 1), .int p1, .int p2] (stW D (tyX cA) nwX (wX ad cA) A σ)) (va_Qv Post (enW D (wX ad cA) A) A) 0 0 A := by
  refine Met.ofW (cc := cX6_addArc) (maxL := 3) (ret := none) (by decide) rfl ?_
  intro p e s m args below meth c s₁ B hml hv
  obtain ⟨rfl, hA, hN, hP, hK, hD⟩ := hv
  have hx := B.exec
  have hb := B.bytes
  have hr := B.returns
  have hts := atoms_spec (ws := wsX6_addArc) B.pre
  have hown : s.vm.findClass RX6 = some m.cls := findClass_of_methodNamed B.named
  have hlocks := B.notSynchronized
  have hiX6 : ∀ w ∈ wsX60, w ∈ wsX6_addArc := by decide +kernel
  have hS : va_S A s.heap s.heap [] := va_S.rf
  have hl := lv_entry ([.ref (ad 1), .int p1, .int p2]) (n := 3) (Nat.le_of_ble_eq_true rfl)
  rw [lg_entry_eq]
  generalize (lg_sl ([.ref (ad 1), .int p1, .int p2]) ++ List.replicate (3 - (lg_sl ([.ref (ad 1), .int p1, .int p2])).length) Slot.unset).toArray = ls at hl ⊢
  have hl : lv_has ls 3 [(0, .ref (ad 1)), (1, .int p1), (2, .int p2)] := hl
  have hq := hwp
  unfold X6_addArc_wp at hq
  refine lv_aload_n hx hb dX6_addArc_0 rfl (lv_at hl 0 rfl) ?_
  refine va_get (D := D) (ci := 6) (v := .ref (ad 6)) (C := RX6) (T := TX6) (N := 13) hx hb hts hiX6 hown hK hP 1 wXg1 rfl 8 (by decide) (hts (.fieldLink RX6 24 "ArcGuesser$Net" "arcPairs" "[I") (List.mem_of_getElem? (i := 1) rfl)) (fun _ h9 => h9) rfl dX6_addArc_1 ?_
  refine lv_aload_n hx hb dX6_addArc_4 rfl (lv_at hl 0 rfl) ?_
  refine va_get (D := D) (ci := 6) (v := .int (σ.1 1 3)) (C := RX6) (T := TX6) (N := 13) hx hb hts hiX6 hown hK hP 1 wXg1 rfl 3 (by decide) (hts (.fieldLink RX6 49 "ArcGuesser$Net" "arcTotal" "I") (List.mem_of_getElem? (i := 2) rfl)) (fun _ h9 => h9) rfl dX6_addArc_5 ?_
  refine lv_iload_n hx hb dX6_addArc_8 rfl (lv_at hl 1 rfl) ?_
  refine va_iast hx hb hK hP hD hS 6 0 wXg6 rfl hq.1 dX6_addArc_9 (fun H locs hP hD hS => ?_)
  have hP := wXsP6 hP
  have hD := wXsD6 hD
  have hq := hq.2
  refine lv_aload_n hx hb dX6_addArc_10 rfl (lv_at hl 0 rfl) ?_
  refine lv_dup hx hb dX6_addArc_11 rfl ?_
  refine va_get (D := D) (ci := 6) (v := .int (σ.1 1 3)) (C := RX6) (T := TX6) (N := 13) hx hb hts hiX6 hown hK hP 1 wXg1 rfl 3 (by decide) (hts (.fieldLink RX6 49 "ArcGuesser$Net" "arcTotal" "I") (List.mem_of_getElem? (i := 2) rfl)) (fun _ h9 => h9) rfl dX6_addArc_12 ?_
  refine lv_iconst (v := (1 : Int32)) hx hb dX6_addArc_15 (by decide) ?_
  refine lv_iadd hx hb dX6_addArc_16 ?_
  refine va_put (D := D) (ci := 6) (v := .int ((σ.1 1 3) + (1 : Int32))) (ty := .int) (C := RX6) (T := TX6) (N := 13) hx hb hts hiX6 tyX6 tyX6_ok nmX6 hown hK hP hD hS 1 wXg1 rfl 3 (by decide) (hts (.fieldLink RX6 49 "ArcGuesser$Net" "arcTotal" "I") (List.mem_of_getElem? (i := 2) rfl)) (fun _ h9 => h9) rfl (by decide +kernel) rfl rfl (Nat.le_of_ble_eq_true rfl) dX6_addArc_17 (fun H locs hP hD hS => ?_)
  have hP := wXfP1_3 hP
  have hD := wXfD1_3 hD
  refine lv_aload_n hx hb dX6_addArc_20 rfl (lv_at hl 0 rfl) ?_
  refine va_get (D := D) (ci := 6) (v := .ref (ad 5)) (C := RX6) (T := TX6) (N := 13) hx hb hts hiX6 hown hK hP 1 wXg1 rfl 7 (by decide) (hts (.fieldLink RX6 21 "ArcGuesser$Net" "times" "[I") (List.mem_of_getElem? (i := 3) rfl)) (fun _ h9 => h9) rfl dX6_addArc_21 ?_
  refine lv_iload_n hx hb dX6_addArc_24 rfl (lv_at hl 1 rfl) ?_
  refine lv_iload_n hx hb dX6_addArc_25 rfl (lv_at hl 2 rfl) ?_
  refine va_iast hx hb hK hP hD hS 5 0 wXg5 rfl hq.1 dX6_addArc_26 (fun H locs hP hD hS => ?_)
  have hP := wXsP5 hP
  have hD := wXsD5 hD
  have hq := hq.2
  refine lv_aload_n hx hb dX6_addArc_27 rfl (lv_at hl 0 rfl) ?_
  refine lv_iload_n hx hb dX6_addArc_28 rfl (lv_at hl 1 rfl) ?_
  refine lv_iconst (v := (0 : Int32)) hx hb dX6_addArc_29 (by decide) ?_
  refine w_callv (va_runV (As := [.int p1, .int (0 : Int32)]) (rest := []) ⟨hx, hb, hml, hown, hts⟩ (mtX6_setHidden l D ad cA A (sI (sI (sI σ 6 ((σ.1 1 3)).toNatClampNeg p1) 1 3 ((σ.1 1 3) + (1 : Int32))) 5 (p1).toNatClampNeg p2) p1 (0 : Int32) _ hq) (cwV 2 hts gX6_addArc_X6_setHidden rfl rfl rfl (by decide +kernel) ⟨Nat.le_of_ble_eq_true rfl, Nat.le_of_ble_eq_true rfl⟩) ⟨stW_blind nwX_ok, va_recv hK hP (ci := 6) (q0 := 1) rfl wXg1, stW_pass hA hS hN hK hP hD nwX_ok⟩ rfl rfl hl.1 rfl (lv_room (Nat.le_of_ble_eq_true rfl)) dX6_addArc_30 ⟨Nat.le_of_ble_eq_true rfl, Nat.le_of_ble_eq_true rfl⟩) hS (fun σ1 H locs hq hP hD hS => ?_)
  exact W.vret hx hb hr (fun t ht hW => ⟨⟨σ1, rfl, hq, by rw [ht]; exact hP, hD⟩, hS.F ht⟩) hS.2.2 dX6_addArc_33
/-! ArcGuesser$Net.addPair(II)V -/
def X6_addPair_wp (σ : Sto) (p1 : Int32) (p2 : Int32) (Post : Sto → Prop) : Prop :=
  (vp_in (σ.1 1 2) 132 ∧ (vp_in (σ.1 1 2) 132 ∧ (vp_in (((12 : Int32) * p1) + p2) 144 ∧ (((σ.1 1 1) = (1 : Int32) → (Post (sI (sI (sI (sI σ 2 ((σ.1 1 2)).toNatClampNeg p1) 3 ((σ.1 1 2)).toNatClampNeg p2) 7 ((((12 : Int32) * p1) + p2)).toNatClampNeg (σ.1 1 2)) 1 2 ((σ.1 1 2) + (1 : Int32))))) ∧ (¬ (σ.1 1 1) = (1 : Int32) → (vp_in (((12 : Int32) * p2) + p1) 144 ∧ (Post (sI (sI (sI (sI (sI σ 2 ((σ.1 1 2)).toNatClampNeg p1) 3 ((σ.1 1 2)).toNatClampNeg p2) 7 ((((12 : Int32) * p1) + p2)).toNatClampNeg (σ.1 1 2)) 7 ((((12 : Int32) * p2) + p1)).toNatClampNeg (σ.1 1 2)) 1 2 ((σ.1 1 2) + (1 : Int32))))))))))
set_option maxHeartbeats 4000000 in
set_option maxRecDepth 100000 in
theorem mtX6_addPair (l : Launch) (D : va_G) (ad : Nat → Nat) (cA : Nat → ClassId) (A : Nat → Prop) (σ : Sto) (p1 : Int32) (p2 : Int32) (Post : Sto → Prop) (hwp : X6_addPair_wp σ p1 p2 Post) : Met l yX6_addPair wsX6_addPair ({ frames := 0, cells := 0, slots := 0, locals := 0 }) (va_Pc [.ref (ad 1), .int p1, .int p2] (stW D (tyX cA) nwX (wX ad cA) A σ)) (va_Qv Post (enW D (wX ad cA) A) A) 0 0 A := by
  refine Met.ofW (cc := cX6_addPair) (maxL := 3) (ret := none) (by decide) rfl ?_
  intro p e s m args below meth c s₁ B hml hv
  obtain ⟨rfl, hA, hN, hP, hK, hD⟩ := hv
  have hx := B.exec
  have hb := B.bytes
  have hr := B.returns
  have hts := atoms_spec (ws := wsX6_addPair) B.pre
  have hown : s.vm.findClass RX6 = some m.cls := findClass_of_methodNamed B.named
  have hlocks := B.notSynchronized
  have hiX6 : ∀ w ∈ wsX60, w ∈ wsX6_addPair := by decide +kernel
  have hS : va_S A s.heap s.heap [] := va_S.rf
  have hl := lv_entry ([.ref (ad 1), .int p1, .int p2]) (n := 3) (Nat.le_of_ble_eq_true rfl)
  rw [lg_entry_eq]
  generalize (lg_sl ([.ref (ad 1), .int p1, .int p2]) ++ List.replicate (3 - (lg_sl ([.ref (ad 1), .int p1, .int p2])).length) Slot.unset).toArray = ls at hl ⊢
  have hl : lv_has ls 3 [(0, .ref (ad 1)), (1, .int p1), (2, .int p2)] := hl
  have hq := hwp
  unfold X6_addPair_wp at hq
  refine lv_aload_n hx hb dX6_addPair_0 rfl (lv_at hl 0 rfl) ?_
  refine va_get (D := D) (ci := 6) (v := .ref (ad 2)) (C := RX6) (T := TX6) (N := 13) hx hb hts hiX6 hown hK hP 1 wXg1 rfl 4 (by decide) (hts (.fieldLink RX6 9 "ArcGuesser$Net" "from" "[I") (List.mem_of_getElem? (i := 1) rfl)) (fun _ h9 => h9) rfl dX6_addPair_1 ?_
  refine lv_aload_n hx hb dX6_addPair_4 rfl (lv_at hl 0 rfl) ?_
  refine va_get (D := D) (ci := 6) (v := .int (σ.1 1 2)) (C := RX6) (T := TX6) (N := 13) hx hb hts hiX6 hown hK hP 1 wXg1 rfl 2 (by decide) (hts (.fieldLink RX6 46 "ArcGuesser$Net" "pairTotal" "I") (List.mem_of_getElem? (i := 2) rfl)) (fun _ h9 => h9) rfl dX6_addPair_5 ?_
  refine lv_iload_n hx hb dX6_addPair_8 rfl (lv_at hl 1 rfl) ?_
  refine va_iast hx hb hK hP hD hS 2 0 wXg2 rfl hq.1 dX6_addPair_9 (fun H locs hP hD hS => ?_)
  have hP := wXsP2 hP
  have hD := wXsD2 hD
  have hq := hq.2
  refine lv_aload_n hx hb dX6_addPair_10 rfl (lv_at hl 0 rfl) ?_
  refine va_get (D := D) (ci := 6) (v := .ref (ad 3)) (C := RX6) (T := TX6) (N := 13) hx hb hts hiX6 hown hK hP 1 wXg1 rfl 5 (by decide) (hts (.fieldLink RX6 15 "ArcGuesser$Net" "to" "[I") (List.mem_of_getElem? (i := 3) rfl)) (fun _ h9 => h9) rfl dX6_addPair_11 ?_
  refine lv_aload_n hx hb dX6_addPair_14 rfl (lv_at hl 0 rfl) ?_
  refine va_get (D := D) (ci := 6) (v := .int (σ.1 1 2)) (C := RX6) (T := TX6) (N := 13) hx hb hts hiX6 hown hK hP 1 wXg1 rfl 2 (by decide) (hts (.fieldLink RX6 46 "ArcGuesser$Net" "pairTotal" "I") (List.mem_of_getElem? (i := 2) rfl)) (fun _ h9 => h9) rfl dX6_addPair_15 ?_
  refine lv_iload_n hx hb dX6_addPair_18 rfl (lv_at hl 2 rfl) ?_
  refine va_iast hx hb hK hP hD hS 3 0 wXg3 rfl hq.1 dX6_addPair_19 (fun H locs hP hD hS => ?_)
  have hP := wXsP3 hP
  have hD := wXsD3 hD
  have hq := hq.2
  refine lv_aload_n hx hb dX6_addPair_20 rfl (lv_at hl 0 rfl) ?_
  refine va_get (D := D) (ci := 6) (v := .ref (ad 7)) (C := RX6) (T := TX6) (N := 13) hx hb hts hiX6 hown hK hP 1 wXg1 rfl 9 (by decide) (hts (.fieldLink RX6 27 "ArcGuesser$Net" "pairByNodes" "[I") (List.mem_of_getElem? (i := 4) rfl)) (fun _ h9 => h9) rfl dX6_addPair_21 ?_
  refine lv_bipush (v := (12 : Int32)) hx hb dX6_addPair_24 (by decide) ?_
  refine lv_iload_n hx hb dX6_addPair_26 rfl (lv_at hl 1 rfl) ?_
  refine lv_imul hx hb dX6_addPair_27 ?_
  refine lv_iload_n hx hb dX6_addPair_28 rfl (lv_at hl 2 rfl) ?_
  refine lv_iadd hx hb dX6_addPair_29 ?_
  refine lv_aload_n hx hb dX6_addPair_30 rfl (lv_at hl 0 rfl) ?_
  refine va_get (D := D) (ci := 6) (v := .int (σ.1 1 2)) (C := RX6) (T := TX6) (N := 13) hx hb hts hiX6 hown hK hP 1 wXg1 rfl 2 (by decide) (hts (.fieldLink RX6 46 "ArcGuesser$Net" "pairTotal" "I") (List.mem_of_getElem? (i := 2) rfl)) (fun _ h9 => h9) rfl dX6_addPair_31 ?_
  refine va_iast hx hb hK hP hD hS 7 0 wXg7 rfl hq.1 dX6_addPair_34 (fun H locs hP hD hS => ?_)
  have hP := wXsP7 hP
  have hD := wXsD7 hD
  have hq := hq.2
  refine lv_aload_n hx hb dX6_addPair_35 rfl (lv_at hl 0 rfl) ?_
  refine va_get (D := D) (ci := 6) (v := .int (σ.1 1 1)) (C := RX6) (T := TX6) (N := 13) hx hb hts hiX6 hown hK hP 1 wXg1 rfl 1 (by decide) (hts (.fieldLink RX6 43 "ArcGuesser$Net" "sort" "I") (List.mem_of_getElem? (i := 5) rfl)) (fun _ h9 => h9) rfl dX6_addPair_36 ?_
  refine lv_iconst (v := (1 : Int32)) hx hb dX6_addPair_39 (by decide) ?_
  refine lv_icmp_eq (tgt := 58) hx hb dX6_addPair_40 (by decide) (fun hc => ?_) (fun hc => ?_)
  · have hq := hq.1 hc
    refine lv_aload_n hx hb dX6_addPair_58 rfl (lv_at hl 0 rfl) ?_
    refine lv_dup hx hb dX6_addPair_59 rfl ?_
    refine va_get (D := D) (ci := 6) (v := .int (σ.1 1 2)) (C := RX6) (T := TX6) (N := 13) hx hb hts hiX6 hown hK hP 1 wXg1 rfl 2 (by decide) (hts (.fieldLink RX6 46 "ArcGuesser$Net" "pairTotal" "I") (List.mem_of_getElem? (i := 2) rfl)) (fun _ h9 => h9) rfl dX6_addPair_60 ?_
    refine lv_iconst (v := (1 : Int32)) hx hb dX6_addPair_63 (by decide) ?_
    refine lv_iadd hx hb dX6_addPair_64 ?_
    refine va_put (D := D) (ci := 6) (v := .int ((σ.1 1 2) + (1 : Int32))) (ty := .int) (C := RX6) (T := TX6) (N := 13) hx hb hts hiX6 tyX6 tyX6_ok nmX6 hown hK hP hD hS 1 wXg1 rfl 2 (by decide) (hts (.fieldLink RX6 46 "ArcGuesser$Net" "pairTotal" "I") (List.mem_of_getElem? (i := 2) rfl)) (fun _ h9 => h9) rfl (by decide +kernel) rfl rfl (Nat.le_of_ble_eq_true rfl) dX6_addPair_65 (fun H locs hP hD hS => ?_)
    have hP := wXfP1_2 hP
    have hD := wXfD1_2 hD
    exact W.vret hx hb hr (fun t ht hW => ⟨⟨(sI (sI (sI (sI σ 2 ((σ.1 1 2)).toNatClampNeg p1) 3 ((σ.1 1 2)).toNatClampNeg p2) 7 ((((12 : Int32) * p1) + p2)).toNatClampNeg (σ.1 1 2)) 1 2 ((σ.1 1 2) + (1 : Int32))), rfl, hq, by rw [ht]; exact hP, hD⟩, hS.F ht⟩) hS.2.2 dX6_addPair_68
  · have hq := hq.2 hc
    refine lv_aload_n hx hb dX6_addPair_43 rfl (lv_at hl 0 rfl) ?_
    refine va_get (D := D) (ci := 6) (v := .ref (ad 7)) (C := RX6) (T := TX6) (N := 13) hx hb hts hiX6 hown hK hP 1 wXg1 rfl 9 (by decide) (hts (.fieldLink RX6 27 "ArcGuesser$Net" "pairByNodes" "[I") (List.mem_of_getElem? (i := 4) rfl)) (fun _ h9 => h9) rfl dX6_addPair_44 ?_
    refine lv_bipush (v := (12 : Int32)) hx hb dX6_addPair_47 (by decide) ?_
    refine lv_iload_n hx hb dX6_addPair_49 rfl (lv_at hl 2 rfl) ?_
    refine lv_imul hx hb dX6_addPair_50 ?_
    refine lv_iload_n hx hb dX6_addPair_51 rfl (lv_at hl 1 rfl) ?_
    refine lv_iadd hx hb dX6_addPair_52 ?_
    refine lv_aload_n hx hb dX6_addPair_53 rfl (lv_at hl 0 rfl) ?_
    refine va_get (D := D) (ci := 6) (v := .int (σ.1 1 2)) (C := RX6) (T := TX6) (N := 13) hx hb hts hiX6 hown hK hP 1 wXg1 rfl 2 (by decide) (hts (.fieldLink RX6 46 "ArcGuesser$Net" "pairTotal" "I") (List.mem_of_getElem? (i := 2) rfl)) (fun _ h9 => h9) rfl dX6_addPair_54 ?_
    refine va_iast hx hb hK hP hD hS 7 0 wXg7 rfl hq.1 dX6_addPair_57 (fun H locs hP hD hS => ?_)
    have hP := wXsP7 hP
    have hD := wXsD7 hD
    have hq := hq.2
    refine lv_aload_n hx hb dX6_addPair_58 rfl (lv_at hl 0 rfl) ?_
    refine lv_dup hx hb dX6_addPair_59 rfl ?_
    refine va_get (D := D) (ci := 6) (v := .int (σ.1 1 2)) (C := RX6) (T := TX6) (N := 13) hx hb hts hiX6 hown hK hP 1 wXg1 rfl 2 (by decide) (hts (.fieldLink RX6 46 "ArcGuesser$Net" "pairTotal" "I") (List.mem_of_getElem? (i := 2) rfl)) (fun _ h9 => h9) rfl dX6_addPair_60 ?_
    refine lv_iconst (v := (1 : Int32)) hx hb dX6_addPair_63 (by decide) ?_
    refine lv_iadd hx hb dX6_addPair_64 ?_
    refine va_put (D := D) (ci := 6) (v := .int ((σ.1 1 2) + (1 : Int32))) (ty := .int) (C := RX6) (T := TX6) (N := 13) hx hb hts hiX6 tyX6 tyX6_ok nmX6 hown hK hP hD hS 1 wXg1 rfl 2 (by decide) (hts (.fieldLink RX6 46 "ArcGuesser$Net" "pairTotal" "I") (List.mem_of_getElem? (i := 2) rfl)) (fun _ h9 => h9) rfl (by decide +kernel) rfl rfl (Nat.le_of_ble_eq_true rfl) dX6_addPair_65 (fun H locs hP hD hS => ?_)
    have hP := wXfP1_2 hP
    have hD := wXfD1_2 hD
    exact W.vret hx hb hr (fun t ht hW => ⟨⟨(sI (sI (sI (sI (sI σ 2 ((σ.1 1 2)).toNatClampNeg p1) 3 ((σ.1 1 2)).toNatClampNeg p2) 7 ((((12 : Int32) * p1) + p2)).toNatClampNeg (σ.1 1 2)) 7 ((((12 : Int32) * p2) + p1)).toNatClampNeg (σ.1 1 2)) 1 2 ((σ.1 1 2) + (1 : Int32))), rfl, hq, by rw [ht]; exact hP, hD⟩, hS.F ht⟩) hS.2.2 dX6_addPair_68
/-! ArcGuesser$Net.hiddenArcs()I -/
def X6_hiddenArcs_b4  (K4 : Sto → Int32 → Int32 → Prop) (Post : Int32 → Sto → Prop) (σ : Sto) (v1 : Int32) (v2 : Int32) : Prop :=
  (((σ.1 1 3) ≤ v2 → (Post v1 σ)) ∧ (¬ (σ.1 1 3) ≤ v2 → (vp_in v2 132 ∧ (vp_in (σ.1 6 (v2).toNatClampNeg) 132 ∧ ((¬ (σ.1 4 ((σ.1 6 (v2).toNatClampNeg)).toNatClampNeg) = (2 : Int32) → (K4 σ v1 (v2 + (1 : Int32)))) ∧ ((σ.1 4 ((σ.1 6 (v2).toNatClampNeg)).toNatClampNeg) = (2 : Int32) → (K4 σ (v1 + (1 : Int32)) (v2 + (1 : Int32)))))))))
def X6_hiddenArcs_wp (σ : Sto)  (Post : Int32 → Sto → Prop) : Prop := ∀ (K4 : Sto → Int32 → Int32 → Prop), (∀ (σ : Sto) (v1 : Int32) (v2 : Int32), X6_hiddenArcs_b4  K4 Post σ v1 v2 → K4 σ v1 v2) → 
  (K4 σ (0 : Int32) (0 : Int32))
set_option maxHeartbeats 4000000 in
set_option maxRecDepth 100000 in
theorem mtX6_hiddenArcs (l : Launch) (D : va_G) (ad : Nat → Nat) (cA : Nat → ClassId) (A : Nat → Prop) (σ : Sto)  (Post : Int32 → Sto → Prop) (hwp : X6_hiddenArcs_wp σ  Post) : Met l yX6_hiddenArcs wsX6_hiddenArcs ({ frames := 0, cells := 0, slots := 0, locals := 0 }) (va_Pc [.ref (ad 1)] (stW D (tyX cA) nwX (wX ad cA) A σ)) (va_Qi Post (enW D (wX ad cA) A) A) 0 0 A := by
  refine Met.ofW (cc := cX6_hiddenArcs) (maxL := 3) (ret := (some .int)) (by decide) rfl ?_
  intro p e s m args below meth c s₁ B hml hv
  obtain ⟨rfl, hA, hN, hP, hK, hD⟩ := hv
  have hx := B.exec
  have hb := B.bytes
  have hr := B.returns
  have hts := atoms_spec (ws := wsX6_hiddenArcs) B.pre
  have hown : s.vm.findClass RX6 = some m.cls := findClass_of_methodNamed B.named
  have hlocks := B.notSynchronized
  have hiX6 : ∀ w ∈ wsX60, w ∈ wsX6_hiddenArcs := by decide +kernel
  have hS : va_S A s.heap s.heap [] := va_S.rf
  have hl := lv_entry ([.ref (ad 1)]) (n := 3) (Nat.le_of_ble_eq_true rfl)
  rw [lg_entry_eq]
  generalize (lg_sl ([.ref (ad 1)]) ++ List.replicate (3 - (lg_sl ([.ref (ad 1)])).length) Slot.unset).toArray = ls at hl ⊢
  have hl : lv_has ls 3 [(0, .ref (ad 1))] := hl
  obtain ⟨K4, hK4⟩ : ∃ K : Sto → Int32 → Int32 → Prop, K = fun (σ : Sto) (v1 : Int32) (v2 : Int32) => ∀ (H : Heap) (locs : List Loc) (ls : Array Slot), va_P D vwCl ((wX ad cA) σ) H → va_D A ((wX ad cA) σ) → va_S A s.heap H locs → lv_has ls 3 [(0, .ref (ad 1)), (1, .int v1), (2, .int v2)] → W p l e (headSpec wsX6_hiddenArcs ({ frames := 0, cells := 0, slots := 0, locals := 0 })).room s m ([.ref (ad 1)] : List Value).toArray below meth c H locs 0 0 (MQ below (va_Qi Post (enW D (wX ad cA) A) A) ([.ref (ad 1)] : List Value).toArray s 0 0 A) (F0 m 4 ls []) := ⟨_, rfl⟩
  have hk4 : ∀ (σ : Sto) (v1 : Int32) (v2 : Int32), X6_hiddenArcs_b4  K4 Post σ v1 v2 → K4 σ v1 v2 := by
    intro σ v1 v2 hq
    rw [hK4]
    intro H locs ls hP hD hS hl
    unfold X6_hiddenArcs_b4 at hq
    refine lv_iload_n hx hb dX6_hiddenArcs_4 rfl (lv_at hl 2 rfl) ?_
    refine lv_aload_n hx hb dX6_hiddenArcs_5 rfl (lv_at hl 0 rfl) ?_
    refine va_get (D := D) (ci := 6) (v := .int (σ.1 1 3)) (C := RX6) (T := TX6) (N := 13) hx hb hts hiX6 hown hK hP 1 wXg1 rfl 3 (by decide) (hts (.fieldLink RX6 49 "ArcGuesser$Net" "arcTotal" "I") (List.mem_of_getElem? (i := 1) rfl)) (fun _ h9 => h9) rfl dX6_hiddenArcs_6 ?_
    refine lv_icmp_ge (tgt := 36) hx hb dX6_hiddenArcs_9 (by decide) (fun hc => ?_) (fun hc => ?_)
    · have hq := hq.1 hc
      refine lv_iload_n hx hb dX6_hiddenArcs_36 rfl (lv_at hl 1 rfl) ?_
      exact W.iret (v := v1) hx hb hr (fun t ht hW => ⟨⟨v1, σ, rfl, hq, by rw [ht]; exact hP, hD⟩, hS.F ht⟩) hS.2.2 dX6_hiddenArcs_37
    · have hq := hq.2 hc
      refine lv_aload_n hx hb dX6_hiddenArcs_12 rfl (lv_at hl 0 rfl) ?_
      refine va_get (D := D) (ci := 6) (v := .ref (ad 4)) (C := RX6) (T := TX6) (N := 13) hx hb hts hiX6 hown hK hP 1 wXg1 rfl 6 (by decide) (hts (.fieldLink RX6 18 "ArcGuesser$Net" "states" "[I") (List.mem_of_getElem? (i := 2) rfl)) (fun _ h9 => h9) rfl dX6_hiddenArcs_13 ?_
      refine lv_aload_n hx hb dX6_hiddenArcs_16 rfl (lv_at hl 0 rfl) ?_
      refine va_get (D := D) (ci := 6) (v := .ref (ad 6)) (C := RX6) (T := TX6) (N := 13) hx hb hts hiX6 hown hK hP 1 wXg1 rfl 8 (by decide) (hts (.fieldLink RX6 24 "ArcGuesser$Net" "arcPairs" "[I") (List.mem_of_getElem? (i := 3) rfl)) (fun _ h9 => h9) rfl dX6_hiddenArcs_17 ?_
      refine lv_iload_n hx hb dX6_hiddenArcs_20 rfl (lv_at hl 2 rfl) ?_
      refine va_iald hx hb hK hP 6 0 wXg6 rfl hq.1 dX6_hiddenArcs_21 ?_
      have hq := hq.2
      refine va_iald hx hb hK hP 4 0 wXg4 rfl hq.1 dX6_hiddenArcs_22 ?_
      have hq := hq.2
      refine lv_iconst (v := (2 : Int32)) hx hb dX6_hiddenArcs_23 (by decide) ?_
      refine lv_icmp_ne (tgt := 30) hx hb dX6_hiddenArcs_24 (by decide) (fun hc => ?_) (fun hc => ?_)
      · have hq := hq.1 hc
        refine lv_iinc (v := (v2 + (1 : Int32))) (lv' := [(2, .int (v2 + (1 : Int32))), (0, .ref (ad 1)), (1, .int v1)]) hx hb dX6_hiddenArcs_30 hl (k := 2) rfl (by rfl) (by decide) rfl (fun ls hl => ?_)
        refine lv_goto (tgt := 4) hx hb dX6_hiddenArcs_33 (by decide) ?_
        rw [hK4] at hq
        exact hq _ _ _ hP hD hS (lv_sub hl [1, 2, 0] rfl)
      · have hq := hq.2 hc
        refine lv_iinc (v := (v1 + (1 : Int32))) (lv' := [(1, .int (v1 + (1 : Int32))), (0, .ref (ad 1)), (2, .int v2)]) hx hb dX6_hiddenArcs_27 hl (k := 1) rfl (by rfl) (by decide) rfl (fun ls hl => ?_)
        refine lv_iinc (v := (v2 + (1 : Int32))) (lv' := [(2, .int (v2 + (1 : Int32))), (1, .int (v1 + (1 : Int32))), (0, .ref (ad 1))]) hx hb dX6_hiddenArcs_30 hl (k := 2) rfl (by rfl) (by decide) rfl (fun ls hl => ?_)
        refine lv_goto (tgt := 4) hx hb dX6_hiddenArcs_33 (by decide) ?_
        rw [hK4] at hq
        exact hq _ _ _ hP hD hS (lv_sub hl [2, 1, 0] rfl)
  have hq := hwp K4 hk4
  refine lv_iconst (v := (0 : Int32)) hx hb dX6_hiddenArcs_0 (by decide) ?_
  refine lv_istore_n (lv' := [(1, .int (0 : Int32)), (0, .ref (ad 1))]) hx hb dX6_hiddenArcs_1 rfl hl (by decide) rfl (fun ls hl => ?_)
  refine lv_iconst (v := (0 : Int32)) hx hb dX6_hiddenArcs_2 (by decide) ?_
  refine lv_istore_n (lv' := [(2, .int (0 : Int32)), (1, .int (0 : Int32)), (0, .ref (ad 1))]) hx hb dX6_hiddenArcs_3 rfl hl (by decide) rfl (fun ls hl => ?_)
  rw [hK4] at hq
  exact hq _ _ _ hP hD hS (lv_sub hl [2, 1, 0] rfl)
/-! ArcGuesser$Net.candidateTotal()I -/
def X6_candidateTotal_wp (σ : Sto)  (Post : Int32 → Sto → Prop) : Prop :=
  (X6_hiddenArcs_wp σ  (fun r1 σ1 => (Post (((σ.1 1 2) - (σ.1 1 3)) + r1) σ1)))
set_option maxHeartbeats 4000000 in
set_option maxRecDepth 100000 in
theorem mtX6_candidateTotal (l : Launch) (D : va_G) (ad : Nat → Nat) (cA : Nat → ClassId) (A : Nat → Prop) (σ : Sto)  (Post : Int32 → Sto → Prop) (hwp : X6_candidateTotal_wp σ  Post) : Met l yX6_candidateTotal wsX6_candidateTotal ({ frames := 1, cells := 0, slots := 0, locals := 22 }) (va_Pc [.ref (ad 1)] (stW D (tyX cA) nwX (wX ad cA) A σ)) (va_Qi Post (enW D (wX ad cA) A) A) 0 0 A := by
  refine Met.ofW (cc := cX6_candidateTotal) (maxL := 1) (ret := (some .int)) (by decide) rfl ?_
  intro p e s m args below meth c s₁ B hml hv
  obtain ⟨rfl, hA, hN, hP, hK, hD⟩ := hv
  have hx := B.exec
  have hb := B.bytes
  have hr := B.returns
  have hts := atoms_spec (ws := wsX6_candidateTotal) B.pre
  have hown : s.vm.findClass RX6 = some m.cls := findClass_of_methodNamed B.named
  have hlocks := B.notSynchronized
  have hiX6 : ∀ w ∈ wsX60, w ∈ wsX6_candidateTotal := by decide +kernel
  have hS : va_S A s.heap s.heap [] := va_S.rf
  have hl := lv_entry ([.ref (ad 1)]) (n := 1) (Nat.le_of_ble_eq_true rfl)
  rw [lg_entry_eq]
  generalize (lg_sl ([.ref (ad 1)]) ++ List.replicate (1 - (lg_sl ([.ref (ad 1)])).length) Slot.unset).toArray = ls at hl ⊢
  have hl : lv_has ls 1 [(0, .ref (ad 1))] := hl
  have hq := hwp
  unfold X6_candidateTotal_wp at hq
  refine lv_aload_n hx hb dX6_candidateTotal_0 rfl (lv_at hl 0 rfl) ?_
  refine va_get (D := D) (ci := 6) (v := .int (σ.1 1 2)) (C := RX6) (T := TX6) (N := 13) hx hb hts hiX6 hown hK hP 1 wXg1 rfl 2 (by decide) (hts (.fieldLink RX6 46 "ArcGuesser$Net" "pairTotal" "I") (List.mem_of_getElem? (i := 1) rfl)) (fun _ h9 => h9) rfl dX6_candidateTotal_1 ?_
  refine lv_aload_n hx hb dX6_candidateTotal_4 rfl (lv_at hl 0 rfl) ?_
  refine va_get (D := D) (ci := 6) (v := .int (σ.1 1 3)) (C := RX6) (T := TX6) (N := 13) hx hb hts hiX6 hown hK hP 1 wXg1 rfl 3 (by decide) (hts (.fieldLink RX6 49 "ArcGuesser$Net" "arcTotal" "I") (List.mem_of_getElem? (i := 2) rfl)) (fun _ h9 => h9) rfl dX6_candidateTotal_5 ?_
  refine lv_isub hx hb dX6_candidateTotal_8 ?_
  refine lv_aload_n hx hb dX6_candidateTotal_9 rfl (lv_at hl 0 rfl) ?_
  refine w_calli (va_runV (As := []) (rest := [.int ((σ.1 1 2) - (σ.1 1 3))]) ⟨hx, hb, hml, hown, hts⟩ (mtX6_hiddenArcs l D ad cA A σ  _ hq) (cwV 0 hts gX6_candidateTotal_X6_hiddenArcs rfl rfl rfl (by decide +kernel) ⟨Nat.le_of_ble_eq_true rfl, Nat.le_of_ble_eq_true rfl⟩) ⟨stW_blind nwX_ok, va_recv hK hP (ci := 6) (q0 := 1) rfl wXg1, stW_pass hA hS hN hK hP hD nwX_ok⟩ rfl rfl hl.1 rfl (lv_room (Nat.le_of_ble_eq_true rfl)) dX6_candidateTotal_10 ⟨Nat.le_of_ble_eq_true rfl, Nat.le_of_ble_eq_true rfl⟩) hS (fun r1 σ1 H locs hq hP hD hS => ?_)
  refine lv_iadd hx hb dX6_candidateTotal_13 ?_
  exact W.iret (v := (((σ.1 1 2) - (σ.1 1 3)) + r1)) hx hb hr (fun t ht hW => ⟨⟨(((σ.1 1 2) - (σ.1 1 3)) + r1), σ1, rfl, hq, by rw [ht]; exact hP, hD⟩, hS.F ht⟩) hS.2.2 dX6_candidateTotal_14
/-! ArcGuesser$Net.isNode(I)Z -/
def X6_isNode_wp (σ : Sto) (p1 : Int32) (Post : Int32 → Sto → Prop) : Prop :=
  ((p1 < 0 → (Post (0 : Int32) σ)) ∧ (¬ p1 < 0 → (((σ.1 1 0) ≤ p1 → (Post (0 : Int32) σ)) ∧ (¬ (σ.1 1 0) ≤ p1 → (Post (1 : Int32) σ)))))
set_option maxHeartbeats 4000000 in
set_option maxRecDepth 100000 in
theorem mtX6_isNode (l : Launch) (D : va_G) (ad : Nat → Nat) (cA : Nat → ClassId) (A : Nat → Prop) (σ : Sto) (p1 : Int32) (Post : Int32 → Sto → Prop) (hwp : X6_isNode_wp σ p1 Post) : Met l yX6_isNode wsX6_isNode ({ frames := 0, cells := 0, slots := 0, locals := 0 }) (va_Pc [.ref (ad 1), .int p1] (stW D (tyX cA) nwX (wX ad cA) A σ)) (va_Qi Post (enW D (wX ad cA) A) A) 0 0 A := by
  refine Met.ofW (cc := cX6_isNode) (maxL := 2) (ret := (some .boolean)) (by decide) rfl ?_
  intro p e s m args below meth c s₁ B hml hv
  obtain ⟨rfl, hA, hN, hP, hK, hD⟩ := hv
  have hx := B.exec
  have hb := B.bytes
  have hr := B.returns
  have hts := atoms_spec (ws := wsX6_isNode) B.pre
  have hown : s.vm.findClass RX6 = some m.cls := findClass_of_methodNamed B.named
  have hlocks := B.notSynchronized
  have hiX6 : ∀ w ∈ wsX60, w ∈ wsX6_isNode := by decide +kernel
  have hS : va_S A s.heap s.heap [] := va_S.rf
  have hl := lv_entry ([.ref (ad 1), .int p1]) (n := 2) (Nat.le_of_ble_eq_true rfl)
  rw [lg_entry_eq]
  generalize (lg_sl ([.ref (ad 1), .int p1]) ++ List.replicate (2 - (lg_sl ([.ref (ad 1), .int p1])).length) Slot.unset).toArray = ls at hl ⊢
  have hl : lv_has ls 2 [(0, .ref (ad 1)), (1, .int p1)] := hl
  have hq := hwp
  unfold X6_isNode_wp at hq
  refine lv_iload_n hx hb dX6_isNode_0 rfl (lv_at hl 1 rfl) ?_
  refine lv_if_lt (tgt := 16) hx hb dX6_isNode_1 (by decide) (fun hc => ?_) (fun hc => ?_)
  · have hq := hq.1 hc
    refine lv_iconst (v := (0 : Int32)) hx hb dX6_isNode_16 (by decide) ?_
    exact W.zret (v := (0 : Int32)) hx hb hr rfl (fun t ht hW => ⟨⟨(0 : Int32), σ, rfl, hq, by rw [ht]; exact hP, hD⟩, hS.F ht⟩) hS.2.2 dX6_isNode_17
  · have hq := hq.2 hc
    refine lv_iload_n hx hb dX6_isNode_4 rfl (lv_at hl 1 rfl) ?_
    refine lv_aload_n hx hb dX6_isNode_5 rfl (lv_at hl 0 rfl) ?_
    refine va_get (D := D) (ci := 6) (v := .int (σ.1 1 0)) (C := RX6) (T := TX6) (N := 13) hx hb hts hiX6 hown hK hP 1 wXg1 rfl 0 (by decide) (hts (.fieldLink RX6 39 "ArcGuesser$Net" "nodes" "I") (List.mem_of_getElem? (i := 1) rfl)) (fun _ h9 => h9) rfl dX6_isNode_6 ?_
    refine lv_icmp_ge (tgt := 16) hx hb dX6_isNode_9 (by decide) (fun hc => ?_) (fun hc => ?_)
    · have hq := hq.1 hc
      refine lv_iconst (v := (0 : Int32)) hx hb dX6_isNode_16 (by decide) ?_
      exact W.zret (v := (0 : Int32)) hx hb hr rfl (fun t ht hW => ⟨⟨(0 : Int32), σ, rfl, hq, by rw [ht]; exact hP, hD⟩, hS.F ht⟩) hS.2.2 dX6_isNode_17
    · have hq := hq.2 hc
      refine lv_iconst (v := (1 : Int32)) hx hb dX6_isNode_12 (by decide) ?_
      refine lv_goto (tgt := 17) hx hb dX6_isNode_13 (by decide) ?_
      exact W.zret (v := (1 : Int32)) hx hb hr rfl (fun t ht hW => ⟨⟨(1 : Int32), σ, rfl, hq, by rw [ht]; exact hP, hD⟩, hS.F ht⟩) hS.2.2 dX6_isNode_17
/-! ArcGuesser$Net.makesPair(II)Z -/
def X6_makesPair_wp (σ : Sto) (p1 : Int32) (p2 : Int32) (Post : Int32 → Sto → Prop) : Prop :=
  ((¬ (σ.1 1 1) = (1 : Int32) → ((¬ (σ.1 1 1) = (2 : Int32) → ((p2 ≤ p1 → (Post (0 : Int32) σ)) ∧ (¬ p2 ≤ p1 → (Post (1 : Int32) σ)))) ∧ ((σ.1 1 1) = (2 : Int32) → ((((σ.1 1 0) / (2 : Int32)) ≤ p1 → (Post (0 : Int32) σ)) ∧ (¬ ((σ.1 1 0) / (2 : Int32)) ≤ p1 → ((p2 < ((σ.1 1 0) / (2 : Int32)) → (Post (0 : Int32) σ)) ∧ (¬ p2 < ((σ.1 1 0) / (2 : Int32)) → (Post (1 : Int32) σ)))))))) ∧ ((σ.1 1 1) = (1 : Int32) → ((p1 = p2 → (Post (0 : Int32) σ)) ∧ (¬ p1 = p2 → (Post (1 : Int32) σ)))))
set_option maxHeartbeats 4000000 in
set_option maxRecDepth 100000 in
theorem mtX6_makesPair (l : Launch) (D : va_G) (ad : Nat → Nat) (cA : Nat → ClassId) (A : Nat → Prop) (σ : Sto) (p1 : Int32) (p2 : Int32) (Post : Int32 → Sto → Prop) (hwp : X6_makesPair_wp σ p1 p2 Post) : Met l yX6_makesPair wsX6_makesPair ({ frames := 0, cells := 0, slots := 0, locals := 0 }) (va_Pc [.ref (ad 1), .int p1, .int p2] (stW D (tyX cA) nwX (wX ad cA) A σ)) (va_Qi Post (enW D (wX ad cA) A) A) 0 0 A := by
  refine Met.ofW (cc := cX6_makesPair) (maxL := 3) (ret := (some .boolean)) (by decide) rfl ?_
  intro p e s m args below meth c s₁ B hml hv
  obtain ⟨rfl, hA, hN, hP, hK, hD⟩ := hv
  have hx := B.exec
  have hb := B.bytes
  have hr := B.returns
  have hts := atoms_spec (ws := wsX6_makesPair) B.pre
  have hown : s.vm.findClass RX6 = some m.cls := findClass_of_methodNamed B.named
  have hlocks := B.notSynchronized
  have hiX6 : ∀ w ∈ wsX60, w ∈ wsX6_makesPair := by decide +kernel
  have hS : va_S A s.heap s.heap [] := va_S.rf
  have hl := lv_entry ([.ref (ad 1), .int p1, .int p2]) (n := 3) (Nat.le_of_ble_eq_true rfl)
  rw [lg_entry_eq]
  generalize (lg_sl ([.ref (ad 1), .int p1, .int p2]) ++ List.replicate (3 - (lg_sl ([.ref (ad 1), .int p1, .int p2])).length) Slot.unset).toArray = ls at hl ⊢
  have hl : lv_has ls 3 [(0, .ref (ad 1)), (1, .int p1), (2, .int p2)] := hl
  have hq := hwp
  unfold X6_makesPair_wp at hq
  refine lv_aload_n hx hb dX6_makesPair_0 rfl (lv_at hl 0 rfl) ?_
  refine va_get (D := D) (ci := 6) (v := .int (σ.1 1 1)) (C := RX6) (T := TX6) (N := 13) hx hb hts hiX6 hown hK hP 1 wXg1 rfl 1 (by decide) (hts (.fieldLink RX6 43 "ArcGuesser$Net" "sort" "I") (List.mem_of_getElem? (i := 1) rfl)) (fun _ h9 => h9) rfl dX6_makesPair_1 ?_
  refine lv_iconst (v := (1 : Int32)) hx hb dX6_makesPair_4 (by decide) ?_
  refine lv_icmp_ne (tgt := 19) hx hb dX6_makesPair_5 (by decide) (fun hc => ?_) (fun hc => ?_)
  · have hq := hq.1 hc
    refine lv_aload_n hx hb dX6_makesPair_19 rfl (lv_at hl 0 rfl) ?_
    refine va_get (D := D) (ci := 6) (v := .int (σ.1 1 1)) (C := RX6) (T := TX6) (N := 13) hx hb hts hiX6 hown hK hP 1 wXg1 rfl 1 (by decide) (hts (.fieldLink RX6 43 "ArcGuesser$Net" "sort" "I") (List.mem_of_getElem? (i := 1) rfl)) (fun _ h9 => h9) rfl dX6_makesPair_20 ?_
    refine lv_iconst (v := (2 : Int32)) hx hb dX6_makesPair_23 (by decide) ?_
    refine lv_icmp_ne (tgt := 53) hx hb dX6_makesPair_24 (by decide) (fun hc => ?_) (fun hc => ?_)
    · have hq := hq.1 hc
      refine lv_iload_n hx hb dX6_makesPair_53 rfl (lv_at hl 1 rfl) ?_
      refine lv_iload_n hx hb dX6_makesPair_54 rfl (lv_at hl 2 rfl) ?_
      refine lv_icmp_ge (tgt := 62) hx hb dX6_makesPair_55 (by decide) (fun hc => ?_) (fun hc => ?_)
      · have hq := hq.1 hc
        refine lv_iconst (v := (0 : Int32)) hx hb dX6_makesPair_62 (by decide) ?_
        exact W.zret (v := (0 : Int32)) hx hb hr rfl (fun t ht hW => ⟨⟨(0 : Int32), σ, rfl, hq, by rw [ht]; exact hP, hD⟩, hS.F ht⟩) hS.2.2 dX6_makesPair_63
      · have hq := hq.2 hc
        refine lv_iconst (v := (1 : Int32)) hx hb dX6_makesPair_58 (by decide) ?_
        refine lv_goto (tgt := 63) hx hb dX6_makesPair_59 (by decide) ?_
        exact W.zret (v := (1 : Int32)) hx hb hr rfl (fun t ht hW => ⟨⟨(1 : Int32), σ, rfl, hq, by rw [ht]; exact hP, hD⟩, hS.F ht⟩) hS.2.2 dX6_makesPair_63
    · have hq := hq.2 hc
      refine lv_iload_n hx hb dX6_makesPair_27 rfl (lv_at hl 1 rfl) ?_
      refine lv_aload_n hx hb dX6_makesPair_28 rfl (lv_at hl 0 rfl) ?_
      refine va_get (D := D) (ci := 6) (v := .int (σ.1 1 0)) (C := RX6) (T := TX6) (N := 13) hx hb hts hiX6 hown hK hP 1 wXg1 rfl 0 (by decide) (hts (.fieldLink RX6 39 "ArcGuesser$Net" "nodes" "I") (List.mem_of_getElem? (i := 2) rfl)) (fun _ h9 => h9) rfl dX6_makesPair_29 ?_
      refine lv_iconst (v := (2 : Int32)) hx hb dX6_makesPair_32 (by decide) ?_
      refine lv_idiv hx hb dX6_makesPair_33 (by decide) ?_
      refine lv_icmp_ge (tgt := 51) hx hb dX6_makesPair_34 (by decide) (fun hc => ?_) (fun hc => ?_)
      · have hq := hq.1 hc
        refine lv_iconst (v := (0 : Int32)) hx hb dX6_makesPair_51 (by decide) ?_
        exact W.zret (v := (0 : Int32)) hx hb hr rfl (fun t ht hW => ⟨⟨(0 : Int32), σ, rfl, hq, by rw [ht]; exact hP, hD⟩, hS.F ht⟩) hS.2.2 dX6_makesPair_52
      · have hq := hq.2 hc
        refine lv_iload_n hx hb dX6_makesPair_37 rfl (lv_at hl 2 rfl) ?_
        refine lv_aload_n hx hb dX6_makesPair_38 rfl (lv_at hl 0 rfl) ?_
        refine va_get (D := D) (ci := 6) (v := .int (σ.1 1 0)) (C := RX6) (T := TX6) (N := 13) hx hb hts hiX6 hown hK hP 1 wXg1 rfl 0 (by decide) (hts (.fieldLink RX6 39 "ArcGuesser$Net" "nodes" "I") (List.mem_of_getElem? (i := 2) rfl)) (fun _ h9 => h9) rfl dX6_makesPair_39 ?_
        refine lv_iconst (v := (2 : Int32)) hx hb dX6_makesPair_42 (by decide) ?_
        refine lv_idiv hx hb dX6_makesPair_43 (by decide) ?_
        refine lv_icmp_lt (tgt := 51) hx hb dX6_makesPair_44 (by decide) (fun hc => ?_) (fun hc => ?_)
        · have hq := hq.1 hc
          refine lv_iconst (v := (0 : Int32)) hx hb dX6_makesPair_51 (by decide) ?_
          exact W.zret (v := (0 : Int32)) hx hb hr rfl (fun t ht hW => ⟨⟨(0 : Int32), σ, rfl, hq, by rw [ht]; exact hP, hD⟩, hS.F ht⟩) hS.2.2 dX6_makesPair_52
        · have hq := hq.2 hc
          refine lv_iconst (v := (1 : Int32)) hx hb dX6_makesPair_47 (by decide) ?_
          refine lv_goto (tgt := 52) hx hb dX6_makesPair_48 (by decide) ?_
          exact W.zret (v := (1 : Int32)) hx hb hr rfl (fun t ht hW => ⟨⟨(1 : Int32), σ, rfl, hq, by rw [ht]; exact hP, hD⟩, hS.F ht⟩) hS.2.2 dX6_makesPair_52
  · have hq := hq.2 hc
    refine lv_iload_n hx hb dX6_makesPair_8 rfl (lv_at hl 1 rfl) ?_
    refine lv_iload_n hx hb dX6_makesPair_9 rfl (lv_at hl 2 rfl) ?_
    refine lv_icmp_eq (tgt := 17) hx hb dX6_makesPair_10 (by decide) (fun hc => ?_) (fun hc => ?_)
    · have hq := hq.1 hc
      refine lv_iconst (v := (0 : Int32)) hx hb dX6_makesPair_17 (by decide) ?_
      exact W.zret (v := (0 : Int32)) hx hb hr rfl (fun t ht hW => ⟨⟨(0 : Int32), σ, rfl, hq, by rw [ht]; exact hP, hD⟩, hS.F ht⟩) hS.2.2 dX6_makesPair_18
    · have hq := hq.2 hc
      refine lv_iconst (v := (1 : Int32)) hx hb dX6_makesPair_13 (by decide) ?_
      refine lv_goto (tgt := 18) hx hb dX6_makesPair_14 (by decide) ?_
      exact W.zret (v := (1 : Int32)) hx hb hr rfl (fun t ht hW => ⟨⟨(1 : Int32), σ, rfl, hq, by rw [ht]; exact hP, hD⟩, hS.F ht⟩) hS.2.2 dX6_makesPair_18
/-! ArcGuesser$Net.lay(II)V -/
def X6_lay_b62 (p1 : Int32) (p2 : Int32) (K62 : Sto → Int32 → Prop) (K70 : Sto → Int32 → Int32 → Prop) (Post : Sto → Prop) (σ : Sto) (v3 : Int32) : Prop :=
  ((p1 ≤ v3 → (Post σ)) ∧ (¬ p1 ≤ v3 → (K70 σ v3 (0 : Int32))))
def X6_lay_b70 (p1 : Int32) (p2 : Int32) (K62 : Sto → Int32 → Prop) (K70 : Sto → Int32 → Int32 → Prop) (Post : Sto → Prop) (σ : Sto) (v3 : Int32) (v4 : Int32) : Prop :=
  ((p1 ≤ v4 → (K62 σ (v3 + (1 : Int32)))) ∧ (¬ p1 ≤ v4 → (X6_makesPair_wp σ v3 v4 (fun r1 σ1 => ((r1 = 0 → (K70 σ1 v3 (v4 + (1 : Int32)))) ∧ (¬ r1 = 0 → (X6_addPair_wp σ1 v3 v4 (fun σ2 => (K70 σ2 v3 (v4 + (1 : Int32)))))))))))
def X6_lay_wp (σ : Sto) (p1 : Int32) (p2 : Int32) (Post : Sto → Prop) : Prop := ∀ (K62 : Sto → Int32 → Prop) (K70 : Sto → Int32 → Int32 → Prop), (∀ (σ : Sto) (v3 : Int32), X6_lay_b62 p1 p2 K62 K70 Post σ v3 → K62 σ v3) → (∀ (σ : Sto) (v3 : Int32) (v4 : Int32), X6_lay_b70 p1 p2 K62 K70 Post σ v3 v4 → K70 σ v3 v4) → 
  (fill_wp (sI (sI (sI (sI σ 1 0 p1) 1 1 p2) 1 2 (0 : Int32)) 1 3 (0 : Int32)) 4 132 (0 : Int32) (fun σ1 => (fill_wp σ1 7 144 (-1 : Int32) (fun σ2 => (fill_wp σ2 8 12 (0 : Int32) (fun σ3 => (fill_wp σ3 9 12 (0 : Int32) (fun σ4 => (fill_wp σ4 10 12 (0 : Int32) (fun σ5 => (K62 σ5 (0 : Int32))))))))))))
set_option maxHeartbeats 4000000 in
set_option maxRecDepth 100000 in
theorem mtX6_lay (l : Launch) (D : va_G) (ad : Nat → Nat) (cA : Nat → ClassId) (A : Nat → Prop) (σ : Sto) (p1 : Int32) (p2 : Int32) (Post : Sto → Prop) (hwp : X6_lay_wp σ p1 p2 Post) : Met l yX6_lay wsX6_lay ({ frames := 1, cells := 0, slots := 0, locals := 23 }) (va_Pc [.ref (ad 1), .int p1, .int p2] (stW D (tyX cA) nwX (wX ad cA) A σ)) (va_Qv Post (enW D (wX ad cA) A) A) 0 0 A := by
  refine Met.ofW (cc := cX6_lay) (maxL := 5) (ret := none) (by decide) rfl ?_
  intro p e s m args below meth c s₁ B hml hv
  obtain ⟨rfl, hA, hN, hP, hK, hD⟩ := hv
  have hx := B.exec
  have hb := B.bytes
  have hr := B.returns
  have hts := atoms_spec (ws := wsX6_lay) B.pre
  have hown : s.vm.findClass RX6 = some m.cls := findClass_of_methodNamed B.named
  have hlocks := B.notSynchronized
  have hiX6 : ∀ w ∈ wsX60, w ∈ wsX6_lay := by decide +kernel
  have hS : va_S A s.heap s.heap [] := va_S.rf
  have hl := lv_entry ([.ref (ad 1), .int p1, .int p2]) (n := 5) (Nat.le_of_ble_eq_true rfl)
  rw [lg_entry_eq]
  generalize (lg_sl ([.ref (ad 1), .int p1, .int p2]) ++ List.replicate (5 - (lg_sl ([.ref (ad 1), .int p1, .int p2])).length) Slot.unset).toArray = ls at hl ⊢
  have hl : lv_has ls 5 [(0, .ref (ad 1)), (1, .int p1), (2, .int p2)] := hl
  obtain ⟨K62, hK62⟩ : ∃ K : Sto → Int32 → Prop, K = fun (σ : Sto) (v3 : Int32) => ∀ (H : Heap) (locs : List Loc) (ls : Array Slot), va_P D vwCl ((wX ad cA) σ) H → va_D A ((wX ad cA) σ) → va_S A s.heap H locs → lv_has ls 5 [(0, .ref (ad 1)), (1, .int p1), (3, .int v3)] → W p l e (headSpec wsX6_lay ({ frames := 1, cells := 0, slots := 0, locals := 23 })).room s m ([.ref (ad 1), .int p1, .int p2] : List Value).toArray below meth c H locs 0 0 (MQ below (va_Qv Post (enW D (wX ad cA) A) A) ([.ref (ad 1), .int p1, .int p2] : List Value).toArray s 0 0 A) (F0 m 62 ls []) := ⟨_, rfl⟩
  obtain ⟨K70, hK70⟩ : ∃ K : Sto → Int32 → Int32 → Prop, K = fun (σ : Sto) (v3 : Int32) (v4 : Int32) => ∀ (H : Heap) (locs : List Loc) (ls : Array Slot), va_P D vwCl ((wX ad cA) σ) H → va_D A ((wX ad cA) σ) → va_S A s.heap H locs → lv_has ls 5 [(0, .ref (ad 1)), (1, .int p1), (3, .int v3), (4, .int v4)] → W p l e (headSpec wsX6_lay ({ frames := 1, cells := 0, slots := 0, locals := 23 })).room s m ([.ref (ad 1), .int p1, .int p2] : List Value).toArray below meth c H locs 0 0 (MQ below (va_Qv Post (enW D (wX ad cA) A) A) ([.ref (ad 1), .int p1, .int p2] : List Value).toArray s 0 0 A) (F0 m 70 ls []) := ⟨_, rfl⟩
  have hk62 : ∀ (σ : Sto) (v3 : Int32), X6_lay_b62 p1 p2 K62 K70 Post σ v3 → K62 σ v3 := by
    intro σ v3 hq
    rw [hK62]
    intro H locs ls hP hD hS hl
    unfold X6_lay_b62 at hq
    refine lv_iload_n hx hb dX6_lay_62 rfl (lv_at hl 2 rfl) ?_
    refine lv_iload_n hx hb dX6_lay_63 rfl (lv_at hl 1 rfl) ?_
    refine lv_icmp_ge (tgt := 105) hx hb dX6_lay_64 (by decide) (fun hc => ?_) (fun hc => ?_)
    · have hq := hq.1 hc
      exact W.vret hx hb hr (fun t ht hW => ⟨⟨σ, rfl, hq, by rw [ht]; exact hP, hD⟩, hS.F ht⟩) hS.2.2 dX6_lay_105
    · have hq := hq.2 hc
      refine lv_iconst (v := (0 : Int32)) hx hb dX6_lay_67 (by decide) ?_
      refine lv_istore (lv' := [(4, .int (0 : Int32)), (0, .ref (ad 1)), (1, .int p1), (3, .int v3)]) hx hb dX6_lay_68 hl (by decide) rfl (fun ls hl => ?_)
      rw [hK70] at hq
      exact hq _ _ _ hP hD hS (lv_sub hl [1, 2, 3, 0] rfl)
  have hk70 : ∀ (σ : Sto) (v3 : Int32) (v4 : Int32), X6_lay_b70 p1 p2 K62 K70 Post σ v3 v4 → K70 σ v3 v4 := by
    intro σ v3 v4 hq
    rw [hK70]
    intro H locs ls hP hD hS hl
    unfold X6_lay_b70 at hq
    refine lv_iload hx hb dX6_lay_70 (lv_at hl 3 rfl) ?_
    refine lv_iload_n hx hb dX6_lay_72 rfl (lv_at hl 1 rfl) ?_
    refine lv_icmp_ge (tgt := 99) hx hb dX6_lay_73 (by decide) (fun hc => ?_) (fun hc => ?_)
    · have hq := hq.1 hc
      refine lv_iinc (v := (v3 + (1 : Int32))) (lv' := [(3, .int (v3 + (1 : Int32))), (0, .ref (ad 1)), (1, .int p1), (4, .int v4)]) hx hb dX6_lay_99 hl (k := 2) rfl (by rfl) (by decide) rfl (fun ls hl => ?_)
      refine lv_goto (tgt := 62) hx hb dX6_lay_102 (by decide) ?_
      rw [hK62] at hq
      exact hq _ _ _ hP hD hS (lv_sub hl [1, 2, 0] rfl)
    · have hq := hq.2 hc
      refine lv_aload_n hx hb dX6_lay_76 rfl (lv_at hl 0 rfl) ?_
      refine lv_iload_n hx hb dX6_lay_77 rfl (lv_at hl 2 rfl) ?_
      refine lv_iload hx hb dX6_lay_78 (lv_at hl 3 rfl) ?_
      refine w_calli (va_runV (As := [.int v3, .int v4]) (rest := []) ⟨hx, hb, hml, hown, hts⟩ (mtX6_makesPair l D ad cA A σ v3 v4 _ hq) (cwV 2 hts gX6_lay_X6_makesPair rfl rfl rfl (by decide +kernel) ⟨Nat.le_of_ble_eq_true rfl, Nat.le_of_ble_eq_true rfl⟩) ⟨stW_blind nwX_ok, va_recv hK hP (ci := 6) (q0 := 1) rfl wXg1, stW_pass hA hS hN hK hP hD nwX_ok⟩ rfl rfl hl.1 rfl (lv_room (Nat.le_of_ble_eq_true rfl)) dX6_lay_80 ⟨Nat.le_of_ble_eq_true rfl, Nat.le_of_ble_eq_true rfl⟩) hS (fun r1 σ1 H locs hq hP hD hS => ?_)
      refine lv_if_eq (tgt := 93) hx hb dX6_lay_83 (by decide) (fun hc => ?_) (fun hc => ?_)
      · have hq := hq.1 hc
        refine lv_iinc (v := (v4 + (1 : Int32))) (lv' := [(4, .int (v4 + (1 : Int32))), (0, .ref (ad 1)), (1, .int p1), (3, .int v3)]) hx hb dX6_lay_93 hl (k := 3) rfl (by rfl) (by decide) rfl (fun ls hl => ?_)
        refine lv_goto (tgt := 70) hx hb dX6_lay_96 (by decide) ?_
        rw [hK70] at hq
        exact hq _ _ _ hP hD hS (lv_sub hl [1, 2, 3, 0] rfl)
      · have hq := hq.2 hc
        refine lv_aload_n hx hb dX6_lay_86 rfl (lv_at hl 0 rfl) ?_
        refine lv_iload_n hx hb dX6_lay_87 rfl (lv_at hl 2 rfl) ?_
        refine lv_iload hx hb dX6_lay_88 (lv_at hl 3 rfl) ?_
        refine w_callv (va_runV (As := [.int v3, .int v4]) (rest := []) ⟨hx, hb, hml, hown, hts⟩ (mtX6_addPair l D ad cA A σ1 v3 v4 _ hq) (cwV 2 hts gX6_lay_X6_addPair rfl rfl rfl (by decide +kernel) ⟨Nat.le_of_ble_eq_true rfl, Nat.le_of_ble_eq_true rfl⟩) ⟨stW_blind nwX_ok, va_recv hK hP (ci := 6) (q0 := 1) rfl wXg1, stW_pass hA hS hN hK hP hD nwX_ok⟩ rfl rfl hl.1 rfl (lv_room (Nat.le_of_ble_eq_true rfl)) dX6_lay_90 ⟨Nat.le_of_ble_eq_true rfl, Nat.le_of_ble_eq_true rfl⟩) hS (fun σ2 H locs hq hP hD hS => ?_)
        refine lv_iinc (v := (v4 + (1 : Int32))) (lv' := [(4, .int (v4 + (1 : Int32))), (0, .ref (ad 1)), (1, .int p1), (3, .int v3)]) hx hb dX6_lay_93 hl (k := 3) rfl (by rfl) (by decide) rfl (fun ls hl => ?_)
        refine lv_goto (tgt := 70) hx hb dX6_lay_96 (by decide) ?_
        rw [hK70] at hq
        exact hq _ _ _ hP hD hS (lv_sub hl [1, 2, 3, 0] rfl)
  have hq := hwp K62 K70 hk62 hk70
  refine lv_aload_n hx hb dX6_lay_0 rfl (lv_at hl 0 rfl) ?_
  refine lv_iload_n hx hb dX6_lay_1 rfl (lv_at hl 1 rfl) ?_
  refine va_put (D := D) (ci := 6) (v := .int p1) (ty := .int) (C := RX6) (T := TX6) (N := 13) hx hb hts hiX6 tyX6 tyX6_ok nmX6 hown hK hP hD hS 1 wXg1 rfl 0 (by decide) (hts (.fieldLink RX6 39 "ArcGuesser$Net" "nodes" "I") (List.mem_of_getElem? (i := 1) rfl)) (fun _ h9 => h9) rfl (by decide +kernel) rfl rfl (Nat.le_of_ble_eq_true rfl) dX6_lay_2 (fun H locs hP hD hS => ?_)
  have hP := wXfP1_0 hP
  have hD := wXfD1_0 hD
  refine lv_aload_n hx hb dX6_lay_5 rfl (lv_at hl 0 rfl) ?_
  refine lv_iload_n hx hb dX6_lay_6 rfl (lv_at hl 2 rfl) ?_
  refine va_put (D := D) (ci := 6) (v := .int p2) (ty := .int) (C := RX6) (T := TX6) (N := 13) hx hb hts hiX6 tyX6 tyX6_ok nmX6 hown hK hP hD hS 1 wXg1 rfl 1 (by decide) (hts (.fieldLink RX6 43 "ArcGuesser$Net" "sort" "I") (List.mem_of_getElem? (i := 2) rfl)) (fun _ h9 => h9) rfl (by decide +kernel) rfl rfl (Nat.le_of_ble_eq_true rfl) dX6_lay_7 (fun H locs hP hD hS => ?_)
  have hP := wXfP1_1 hP
  have hD := wXfD1_1 hD
  refine lv_aload_n hx hb dX6_lay_10 rfl (lv_at hl 0 rfl) ?_
  refine lv_iconst (v := (0 : Int32)) hx hb dX6_lay_11 (by decide) ?_
  refine va_put (D := D) (ci := 6) (v := .int (0 : Int32)) (ty := .int) (C := RX6) (T := TX6) (N := 13) hx hb hts hiX6 tyX6 tyX6_ok nmX6 hown hK hP hD hS 1 wXg1 rfl 2 (by decide) (hts (.fieldLink RX6 46 "ArcGuesser$Net" "pairTotal" "I") (List.mem_of_getElem? (i := 3) rfl)) (fun _ h9 => h9) rfl (by decide +kernel) rfl rfl (Nat.le_of_ble_eq_true rfl) dX6_lay_12 (fun H locs hP hD hS => ?_)
  have hP := wXfP1_2 hP
  have hD := wXfD1_2 hD
  refine lv_aload_n hx hb dX6_lay_15 rfl (lv_at hl 0 rfl) ?_
  refine lv_iconst (v := (0 : Int32)) hx hb dX6_lay_16 (by decide) ?_
  refine va_put (D := D) (ci := 6) (v := .int (0 : Int32)) (ty := .int) (C := RX6) (T := TX6) (N := 13) hx hb hts hiX6 tyX6 tyX6_ok nmX6 hown hK hP hD hS 1 wXg1 rfl 3 (by decide) (hts (.fieldLink RX6 49 "ArcGuesser$Net" "arcTotal" "I") (List.mem_of_getElem? (i := 4) rfl)) (fun _ h9 => h9) rfl (by decide +kernel) rfl rfl (Nat.le_of_ble_eq_true rfl) dX6_lay_17 (fun H locs hP hD hS => ?_)
  have hP := wXfP1_3 hP
  have hD := wXfD1_3 hD
  refine lv_aload_n hx hb dX6_lay_20 rfl (lv_at hl 0 rfl) ?_
  refine va_get (D := D) (ci := 6) (v := .ref (ad 4)) (C := RX6) (T := TX6) (N := 13) hx hb hts hiX6 hown hK hP 1 wXg1 rfl 6 (by decide) (hts (.fieldLink RX6 18 "ArcGuesser$Net" "states" "[I") (List.mem_of_getElem? (i := 5) rfl)) (fun _ h9 => h9) rfl dX6_lay_21 ?_
  refine lv_iconst (v := (0 : Int32)) hx hb dX6_lay_24 (by decide) ?_
  refine w_callv (va_runS (As := [.ref (ad 4), .int (0 : Int32)]) (rest := []) ⟨hx, hb, hml, hown, hts⟩ (cJ7_fill l D (wX ad cA) ad cA (tyX cA) (nwX) A 4 132 rfl (fun _ => rfl) (fun _ _ _ => rfl) (by decide) (sI (sI (sI (sI σ 1 0 p1) 1 1 p2) 1 2 (0 : Int32)) 1 3 (0 : Int32)) (0 : Int32) _ hq) (va_cwS 2 hts gX6_lay_J7_fill_53178 rfl rfl rfl (by decide +kernel) ⟨Nat.le_of_ble_eq_true rfl, Nat.le_of_ble_eq_true rfl⟩) ⟨stW_blind nwX_ok, stW_pass hA hS hN hK hP hD nwX_ok⟩ rfl rfl hl.1 rfl (lv_room (Nat.le_of_ble_eq_true rfl)) dX6_lay_25 ⟨Nat.le_of_ble_eq_true rfl, Nat.le_of_ble_eq_true rfl⟩) hS (fun σ1 H locs hq hP hD hS => ?_)
  refine lv_aload_n hx hb dX6_lay_28 rfl (lv_at hl 0 rfl) ?_
  refine va_get (D := D) (ci := 6) (v := .ref (ad 7)) (C := RX6) (T := TX6) (N := 13) hx hb hts hiX6 hown hK hP 1 wXg1 rfl 9 (by decide) (hts (.fieldLink RX6 27 "ArcGuesser$Net" "pairByNodes" "[I") (List.mem_of_getElem? (i := 6) rfl)) (fun _ h9 => h9) rfl dX6_lay_29 ?_
  refine lv_iconst (v := (-1 : Int32)) hx hb dX6_lay_32 (by decide) ?_
  refine w_callv (va_runS (As := [.ref (ad 7), .int (-1 : Int32)]) (rest := []) ⟨hx, hb, hml, hown, hts⟩ (cJ7_fill l D (wX ad cA) ad cA (tyX cA) (nwX) A 7 144 rfl (fun _ => rfl) (fun _ _ _ => rfl) (by decide) σ1 (-1 : Int32) _ hq) (va_cwS 2 hts gX6_lay_J7_fill_53178 rfl rfl rfl (by decide +kernel) ⟨Nat.le_of_ble_eq_true rfl, Nat.le_of_ble_eq_true rfl⟩) ⟨stW_blind nwX_ok, stW_pass hA hS hN hK hP hD nwX_ok⟩ rfl rfl hl.1 rfl (lv_room (Nat.le_of_ble_eq_true rfl)) dX6_lay_33 ⟨Nat.le_of_ble_eq_true rfl, Nat.le_of_ble_eq_true rfl⟩) hS (fun σ2 H locs hq hP hD hS => ?_)
  refine lv_aload_n hx hb dX6_lay_36 rfl (lv_at hl 0 rfl) ?_
  refine va_get (D := D) (ci := 6) (v := .ref (ad 8)) (C := RX6) (T := TX6) (N := 13) hx hb hts hiX6 hown hK hP 1 wXg1 rfl 10 (by decide) (hts (.fieldLink RX6 30 "ArcGuesser$Net" "groups" "[I") (List.mem_of_getElem? (i := 7) rfl)) (fun _ h9 => h9) rfl dX6_lay_37 ?_
  refine lv_iconst (v := (0 : Int32)) hx hb dX6_lay_40 (by decide) ?_
  refine w_callv (va_runS (As := [.ref (ad 8), .int (0 : Int32)]) (rest := []) ⟨hx, hb, hml, hown, hts⟩ (cJ7_fill l D (wX ad cA) ad cA (tyX cA) (nwX) A 8 12 rfl (fun _ => rfl) (fun _ _ _ => rfl) (by decide) σ2 (0 : Int32) _ hq) (va_cwS 2 hts gX6_lay_J7_fill_53178 rfl rfl rfl (by decide +kernel) ⟨Nat.le_of_ble_eq_true rfl, Nat.le_of_ble_eq_true rfl⟩) ⟨stW_blind nwX_ok, stW_pass hA hS hN hK hP hD nwX_ok⟩ rfl rfl hl.1 rfl (lv_room (Nat.le_of_ble_eq_true rfl)) dX6_lay_41 ⟨Nat.le_of_ble_eq_true rfl, Nat.le_of_ble_eq_true rfl⟩) hS (fun σ3 H locs hq hP hD hS => ?_)
  refine lv_aload_n hx hb dX6_lay_44 rfl (lv_at hl 0 rfl) ?_
  refine va_get (D := D) (ci := 6) (v := .ref (ad 9)) (C := RX6) (T := TX6) (N := 13) hx hb hts hiX6 hown hK hP 1 wXg1 rfl 11 (by decide) (hts (.fieldLink RX6 33 "ArcGuesser$Net" "out" "[I") (List.mem_of_getElem? (i := 8) rfl)) (fun _ h9 => h9) rfl dX6_lay_45 ?_
  refine lv_iconst (v := (0 : Int32)) hx hb dX6_lay_48 (by decide) ?_
  refine w_callv (va_runS (As := [.ref (ad 9), .int (0 : Int32)]) (rest := []) ⟨hx, hb, hml, hown, hts⟩ (cJ7_fill l D (wX ad cA) ad cA (tyX cA) (nwX) A 9 12 rfl (fun _ => rfl) (fun _ _ _ => rfl) (by decide) σ3 (0 : Int32) _ hq) (va_cwS 2 hts gX6_lay_J7_fill_53178 rfl rfl rfl (by decide +kernel) ⟨Nat.le_of_ble_eq_true rfl, Nat.le_of_ble_eq_true rfl⟩) ⟨stW_blind nwX_ok, stW_pass hA hS hN hK hP hD nwX_ok⟩ rfl rfl hl.1 rfl (lv_room (Nat.le_of_ble_eq_true rfl)) dX6_lay_49 ⟨Nat.le_of_ble_eq_true rfl, Nat.le_of_ble_eq_true rfl⟩) hS (fun σ4 H locs hq hP hD hS => ?_)
  refine lv_aload_n hx hb dX6_lay_52 rfl (lv_at hl 0 rfl) ?_
  refine va_get (D := D) (ci := 6) (v := .ref (ad 10)) (C := RX6) (T := TX6) (N := 13) hx hb hts hiX6 hown hK hP 1 wXg1 rfl 12 (by decide) (hts (.fieldLink RX6 36 "ArcGuesser$Net" "in" "[I") (List.mem_of_getElem? (i := 9) rfl)) (fun _ h9 => h9) rfl dX6_lay_53 ?_
  refine lv_iconst (v := (0 : Int32)) hx hb dX6_lay_56 (by decide) ?_
  refine w_callv (va_runS (As := [.ref (ad 10), .int (0 : Int32)]) (rest := []) ⟨hx, hb, hml, hown, hts⟩ (cJ7_fill l D (wX ad cA) ad cA (tyX cA) (nwX) A 10 12 rfl (fun _ => rfl) (fun _ _ _ => rfl) (by decide) σ4 (0 : Int32) _ hq) (va_cwS 2 hts gX6_lay_J7_fill_53178 rfl rfl rfl (by decide +kernel) ⟨Nat.le_of_ble_eq_true rfl, Nat.le_of_ble_eq_true rfl⟩) ⟨stW_blind nwX_ok, stW_pass hA hS hN hK hP hD nwX_ok⟩ rfl rfl hl.1 rfl (lv_room (Nat.le_of_ble_eq_true rfl)) dX6_lay_57 ⟨Nat.le_of_ble_eq_true rfl, Nat.le_of_ble_eq_true rfl⟩) hS (fun σ5 H locs hq hP hD hS => ?_)
  refine lv_iconst (v := (0 : Int32)) hx hb dX6_lay_60 (by decide) ?_
  refine lv_istore_n (lv' := [(3, .int (0 : Int32)), (0, .ref (ad 1)), (1, .int p1), (2, .int p2)]) hx hb dX6_lay_61 rfl hl (by decide) rfl (fun ls hl => ?_)
  rw [hK62] at hq
  exact hq _ _ _ hP hD hS (lv_sub hl [1, 2, 0] rfl)
/-! ArcGuesser$Net.pairFor(II)I -/
def X6_pairFor_wp (σ : Sto) (p1 : Int32) (p2 : Int32) (Post : Int32 → Sto → Prop) : Prop :=
  (X6_isNode_wp σ p1 (fun r1 σ1 => ((r1 = 0 → (Post (-1 : Int32) σ1)) ∧ (¬ r1 = 0 → (X6_isNode_wp σ1 p2 (fun r2 σ2 => ((¬ r2 = 0 → (vp_in (((12 : Int32) * p1) + p2) 144 ∧ (Post (σ2.1 7 ((((12 : Int32) * p1) + p2)).toNatClampNeg) σ2))) ∧ (r2 = 0 → (Post (-1 : Int32) σ2)))))))))
set_option maxHeartbeats 4000000 in
set_option maxRecDepth 100000 in
theorem mtX6_pairFor (l : Launch) (D : va_G) (ad : Nat → Nat) (cA : Nat → ClassId) (A : Nat → Prop) (σ : Sto) (p1 : Int32) (p2 : Int32) (Post : Int32 → Sto → Prop) (hwp : X6_pairFor_wp σ p1 p2 Post) : Met l yX6_pairFor wsX6_pairFor ({ frames := 1, cells := 0, slots := 0, locals := 21 }) (va_Pc [.ref (ad 1), .int p1, .int p2] (stW D (tyX cA) nwX (wX ad cA) A σ)) (va_Qi Post (enW D (wX ad cA) A) A) 0 0 A := by
  refine Met.ofW (cc := cX6_pairFor) (maxL := 3) (ret := (some .int)) (by decide) rfl ?_
  intro p e s m args below meth c s₁ B hml hv
  obtain ⟨rfl, hA, hN, hP, hK, hD⟩ := hv
  have hx := B.exec
  have hb := B.bytes
  have hr := B.returns
  have hts := atoms_spec (ws := wsX6_pairFor) B.pre
  have hown : s.vm.findClass RX6 = some m.cls := findClass_of_methodNamed B.named
  have hlocks := B.notSynchronized
  have hiX6 : ∀ w ∈ wsX60, w ∈ wsX6_pairFor := by decide +kernel
  have hS : va_S A s.heap s.heap [] := va_S.rf
  have hl := lv_entry ([.ref (ad 1), .int p1, .int p2]) (n := 3) (Nat.le_of_ble_eq_true rfl)
  rw [lg_entry_eq]
  generalize (lg_sl ([.ref (ad 1), .int p1, .int p2]) ++ List.replicate (3 - (lg_sl ([.ref (ad 1), .int p1, .int p2])).length) Slot.unset).toArray = ls at hl ⊢
  have hl : lv_has ls 3 [(0, .ref (ad 1)), (1, .int p1), (2, .int p2)] := hl
  have hq := hwp
  unfold X6_pairFor_wp at hq
  refine lv_aload_n hx hb dX6_pairFor_0 rfl (lv_at hl 0 rfl) ?_
  refine lv_iload_n hx hb dX6_pairFor_1 rfl (lv_at hl 1 rfl) ?_
  refine w_calli (va_runV (As := [.int p1]) (rest := []) ⟨hx, hb, hml, hown, hts⟩ (mtX6_isNode l D ad cA A σ p1 _ hq) (cwV 1 hts gX6_pairFor_X6_isNode rfl rfl rfl (by decide +kernel) ⟨Nat.le_of_ble_eq_true rfl, Nat.le_of_ble_eq_true rfl⟩) ⟨stW_blind nwX_ok, va_recv hK hP (ci := 6) (q0 := 1) rfl wXg1, stW_pass hA hS hN hK hP hD nwX_ok⟩ rfl rfl hl.1 rfl (lv_room (Nat.le_of_ble_eq_true rfl)) dX6_pairFor_2 ⟨Nat.le_of_ble_eq_true rfl, Nat.le_of_ble_eq_true rfl⟩) hS (fun r1 σ1 H locs hq hP hD hS => ?_)
  refine lv_if_eq (tgt := 16) hx hb dX6_pairFor_5 (by decide) (fun hc => ?_) (fun hc => ?_)
  · have hq := hq.1 hc
    refine lv_iconst (v := (-1 : Int32)) hx hb dX6_pairFor_16 (by decide) ?_
    exact W.iret (v := (-1 : Int32)) hx hb hr (fun t ht hW => ⟨⟨(-1 : Int32), σ1, rfl, hq, by rw [ht]; exact hP, hD⟩, hS.F ht⟩) hS.2.2 dX6_pairFor_17
  · have hq := hq.2 hc
    refine lv_aload_n hx hb dX6_pairFor_8 rfl (lv_at hl 0 rfl) ?_
    refine lv_iload_n hx hb dX6_pairFor_9 rfl (lv_at hl 2 rfl) ?_
    refine w_calli (va_runV (As := [.int p2]) (rest := []) ⟨hx, hb, hml, hown, hts⟩ (mtX6_isNode l D ad cA A σ1 p2 _ hq) (cwV 1 hts gX6_pairFor_X6_isNode rfl rfl rfl (by decide +kernel) ⟨Nat.le_of_ble_eq_true rfl, Nat.le_of_ble_eq_true rfl⟩) ⟨stW_blind nwX_ok, va_recv hK hP (ci := 6) (q0 := 1) rfl wXg1, stW_pass hA hS hN hK hP hD nwX_ok⟩ rfl rfl hl.1 rfl (lv_room (Nat.le_of_ble_eq_true rfl)) dX6_pairFor_10 ⟨Nat.le_of_ble_eq_true rfl, Nat.le_of_ble_eq_true rfl⟩) hS (fun r2 σ2 H locs hq hP hD hS => ?_)
    refine lv_if_ne (tgt := 18) hx hb dX6_pairFor_13 (by decide) (fun hc => ?_) (fun hc => ?_)
    · have hq := hq.1 hc
      refine lv_aload_n hx hb dX6_pairFor_18 rfl (lv_at hl 0 rfl) ?_
      refine va_get (D := D) (ci := 6) (v := .ref (ad 7)) (C := RX6) (T := TX6) (N := 13) hx hb hts hiX6 hown hK hP 1 wXg1 rfl 9 (by decide) (hts (.fieldLink RX6 27 "ArcGuesser$Net" "pairByNodes" "[I") (List.mem_of_getElem? (i := 1) rfl)) (fun _ h9 => h9) rfl dX6_pairFor_19 ?_
      refine lv_bipush (v := (12 : Int32)) hx hb dX6_pairFor_22 (by decide) ?_
      refine lv_iload_n hx hb dX6_pairFor_24 rfl (lv_at hl 1 rfl) ?_
      refine lv_imul hx hb dX6_pairFor_25 ?_
      refine lv_iload_n hx hb dX6_pairFor_26 rfl (lv_at hl 2 rfl) ?_
      refine lv_iadd hx hb dX6_pairFor_27 ?_
      refine va_iald hx hb hK hP 7 0 wXg7 rfl hq.1 dX6_pairFor_28 ?_
      have hq := hq.2
      exact W.iret (v := (σ2.1 7 ((((12 : Int32) * p1) + p2)).toNatClampNeg)) hx hb hr (fun t ht hW => ⟨⟨(σ2.1 7 ((((12 : Int32) * p1) + p2)).toNatClampNeg), σ2, rfl, hq, by rw [ht]; exact hP, hD⟩, hS.F ht⟩) hS.2.2 dX6_pairFor_29
    · have hq := hq.2 hc
      refine lv_iconst (v := (-1 : Int32)) hx hb dX6_pairFor_16 (by decide) ?_
      exact W.iret (v := (-1 : Int32)) hx hb hr (fun t ht hW => ⟨⟨(-1 : Int32), σ2, rfl, hq, by rw [ht]; exact hP, hD⟩, hS.F ht⟩) hS.2.2 dX6_pairFor_17
/-! ArcGuesser.isMeasure(I)Z -/
def X7_isMeasure_wp (σ : Sto) (p0 : Int32) (Post : Int32 → Sto → Prop) : Prop :=
  (X7_isWithin_wp σ p0 (0 : Int32) (10 : Int32) (fun r1 σ1 => (narrow .boolean (.int r1) = .int r1 ∧ (Post r1 σ1))))
set_option maxHeartbeats 4000000 in
set_option maxRecDepth 100000 in
theorem mtX7_isMeasure (l : Launch) (D : va_G) (ad : Nat → Nat) (cA : Nat → ClassId) (A : Nat → Prop) (σ : Sto) (p0 : Int32) (Post : Int32 → Sto → Prop) (hwp : X7_isMeasure_wp σ p0 Post) : Met l yX7_isMeasure wsX7_isMeasure ({ frames := 1, cells := 0, slots := 0, locals := 22 }) (va_Pc [.int p0] (stW D (tyX cA) nwX (wX ad cA) A σ)) (va_Qi Post (enW D (wX ad cA) A) A) 0 0 A := by
  refine Met.ofW (cc := cX7_isMeasure) (maxL := 1) (ret := (some .boolean)) (by decide) rfl ?_
  intro p e s m args below meth c s₁ B hml hv
  obtain ⟨rfl, hA, hN, hP, hK, hD⟩ := hv
  have hx := B.exec
  have hb := B.bytes
  have hr := B.returns
  have hts := atoms_spec (ws := wsX7_isMeasure) B.pre
  have hown : s.vm.findClass RX7 = some m.cls := findClass_of_methodNamed B.named
  have hlocks := B.notSynchronized
  have hS : va_S A s.heap s.heap [] := va_S.rf
  have hl := lv_entry ([.int p0]) (n := 1) (Nat.le_of_ble_eq_true rfl)
  rw [lg_entry_eq]
  generalize (lg_sl ([.int p0]) ++ List.replicate (1 - (lg_sl ([.int p0])).length) Slot.unset).toArray = ls at hl ⊢
  have hl : lv_has ls 1 [(0, .int p0)] := hl
  have hq := hwp
  unfold X7_isMeasure_wp at hq
  refine lv_iload_n hx hb dX7_isMeasure_0 rfl (lv_at hl 0 rfl) ?_
  refine lv_iconst (v := (0 : Int32)) hx hb dX7_isMeasure_1 (by decide) ?_
  refine lv_bipush (v := (10 : Int32)) hx hb dX7_isMeasure_2 (by decide) ?_
  refine w_calli (va_runS (As := [.int p0, .int (0 : Int32), .int (10 : Int32)]) (rest := []) ⟨hx, hb, hml, hown, hts⟩ (mtX7_isWithin l D ad cA A σ p0 (0 : Int32) (10 : Int32) _ hq) (va_cwS 3 hts gX7_isMeasure_X7_isWithin rfl rfl rfl (by decide +kernel) ⟨Nat.le_of_ble_eq_true rfl, Nat.le_of_ble_eq_true rfl⟩) ⟨stW_blind nwX_ok, stW_pass hA hS hN hK hP hD nwX_ok⟩ rfl rfl hl.1 rfl (lv_room (Nat.le_of_ble_eq_true rfl)) dX7_isMeasure_4 ⟨Nat.le_of_ble_eq_true rfl, Nat.le_of_ble_eq_true rfl⟩) hS (fun r1 σ1 H locs hq hP hD hS => ?_)
  exact W.zret (v := r1) hx hb hr hq.1 (fun t ht hW => ⟨⟨r1, σ1, rfl, hq.2, by rw [ht]; exact hP, hD⟩, hS.F ht⟩) hS.2.2 dX7_isMeasure_7
