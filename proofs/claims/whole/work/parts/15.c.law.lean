/-! the law: its calls -/
set_option maxHeartbeats 4000000 in
set_option maxRecDepth 100000 in
theorem lc0 {p : Program} {l : Launch} {e : Env} {s : State} {m : MethodId} {below : List Frame} {meth : Method} {c : Code} {b L : Nat} {xs : Nat → Int32} {D : va_G} {cA cB : Nat → ClassId} {ad bd : Nat → Nat} {i : Nat} (C : LCx p s m c b L xs D cA cB) (hi : i + 4 ≤ L) (nx : LG p l e s m below meth c b D cA cB ad bd 699 i) : LG p l e s m below meth c b D cA cB ad bd 124 i := by
  obtain ⟨hx, hb, hml, hown, hts, hN, hK, hKM, hX, hbl, hL⟩ := C
  have hA : ∀ q : Nat, s.heap.size ≤ q → (fun q : Nat => s.heap.size ≤ q) q := fun _ h => h
  have hbA : ¬ (fun q : Nat => s.heap.size ≤ q) b := Nat.not_le.mpr hbl
  have hNM : ∀ w ∈ nwM, va_Nw w s := fun w h => by cases h
  intro g σ τ H locs ls hσ hτ hP hD hS hl
  refine lv_aload_n hx hb dL_law_124 rfl (lv_at hl 1 rfl) ?_
  refine lv_aload_n hx hb dL_law_125 rfl (lv_at hl 0 rfl) ?_
  refine lv_iload_n hx hb dL_law_126 rfl (lv_at hl 3 rfl) ?_
  refine lv_iconst (v := (1 : Int32)) hx hb dL_law_127 (by decide) ?_
  refine lv_iadd hx hb dL_law_128 ?_
  refine va_sld hx hb hX hbl hbA hS (l_in (k := 1) hL hi (by decide)) dL_law_129 ?_
  refine lv_aload_n hx hb dL_law_130 rfl (lv_at hl 0 rfl) ?_
  refine lv_iload_n hx hb dL_law_131 rfl (lv_at hl 3 rfl) ?_
  refine lv_iconst (v := (2 : Int32)) hx hb dL_law_132 (by decide) ?_
  refine lv_iadd hx hb dL_law_133 ?_
  refine va_sld hx hb hX hbl hbA hS (l_in (k := 2) hL hi (by decide)) dL_law_134 ?_
  refine l_calli (va_runV (As := [.int (xs ((nI i) + (1 : Int32)).toNatClampNeg), .int (xs ((nI i) + (2 : Int32)).toNatClampNeg)]) (rest := []) ⟨hx, hb, hml, hown, hts⟩ (mtX7_graph l D ad cA (va_A (wX ad cA σ) H.size) σ (xs ((nI i) + (1 : Int32)).toNatClampNeg) (xs ((nI i) + (2 : Int32)).toNatClampNeg) (fun (r : Int32) (ρ : Sto) => r = rGraph (xs ((nI i) + (1 : Int32)).toNatClampNeg) (xs ((nI i) + (2 : Int32)).toNatClampNeg) ∧ XI ρ (gGraph g (xs ((nI i) + (1 : Int32)).toNatClampNeg) (xs ((nI i) + (2 : Int32)).toNatClampNeg))) (xGraph_ok hσ (fun ρ hρ => (⟨rfl, hρ⟩ : rGraph (xs ((nI i) + (1 : Int32)).toNatClampNeg) (xs ((nI i) + (2 : Int32)).toNatClampNeg) = rGraph (xs ((nI i) + (1 : Int32)).toNatClampNeg) (xs ((nI i) + (2 : Int32)).toNatClampNeg) ∧ XI ρ (gGraph g (xs ((nI i) + (1 : Int32)).toNatClampNeg) (xs ((nI i) + (2 : Int32)).toNatClampNeg)))))) (cwV 2 hts gL_law_X7_graph rfl rfl rfl (by decide +kernel) ⟨Nat.le_of_ble_eq_true rfl, Nat.le_of_ble_eq_true rfl⟩) ⟨stW_blind nwX_ok, va_recv hK hP.appL (ci := 7) (q0 := 0) rfl wXg0, stW_passA hN hK hP hD nwX_ok⟩ rfl rfl hl.1 rfl (lv_room (Nat.le_of_ble_eq_true rfl)) dL_law_135 ⟨Nat.le_of_ble_eq_true rfl, Nat.le_of_ble_eq_true rfl⟩) hS hA hP hD (fun r1 σ H locs hq1 hP hD hS => ?_)
  refine lv_aload_n hx hb dL_law_138 rfl (lv_at hl 2 rfl) ?_
  refine lv_aload_n hx hb dL_law_139 rfl (lv_at hl 0 rfl) ?_
  refine lv_iload_n hx hb dL_law_140 rfl (lv_at hl 3 rfl) ?_
  refine lv_iconst (v := (1 : Int32)) hx hb dL_law_141 (by decide) ?_
  refine lv_iadd hx hb dL_law_142 ?_
  refine va_sld hx hb hX hbl hbA hS (l_in (k := 1) hL hi (by decide)) dL_law_143 ?_
  refine lv_aload_n hx hb dL_law_144 rfl (lv_at hl 0 rfl) ?_
  refine lv_iload_n hx hb dL_law_145 rfl (lv_at hl 3 rfl) ?_
  refine lv_iconst (v := (2 : Int32)) hx hb dL_law_146 (by decide) ?_
  refine lv_iadd hx hb dL_law_147 ?_
  refine va_sld hx hb hX hbl hbA hS (l_in (k := 2) hL hi (by decide)) dL_law_148 ?_
  have hP := hP.turn
  have hD := hD.turn
  refine l_calli (va_runV (As := [.int (xs ((nI i) + (1 : Int32)).toNatClampNeg), .int (xs ((nI i) + (2 : Int32)).toNatClampNeg)]) (rest := [.int r1]) ⟨hx, hb, hml, hown, hts⟩ (mtX8_graph l D bd cB (va_A (wM bd cB τ) H.size) τ (xs ((nI i) + (1 : Int32)).toNatClampNeg) (xs ((nI i) + (2 : Int32)).toNatClampNeg) (fun (r : Int32) (ρ : Sto) => r = rGraph (xs ((nI i) + (1 : Int32)).toNatClampNeg) (xs ((nI i) + (2 : Int32)).toNatClampNeg) ∧ MI ρ (gGraph g (xs ((nI i) + (1 : Int32)).toNatClampNeg) (xs ((nI i) + (2 : Int32)).toNatClampNeg))) (mGraph_ok hτ (fun ρ hρ => (⟨rfl, hρ⟩ : rGraph (xs ((nI i) + (1 : Int32)).toNatClampNeg) (xs ((nI i) + (2 : Int32)).toNatClampNeg) = rGraph (xs ((nI i) + (1 : Int32)).toNatClampNeg) (xs ((nI i) + (2 : Int32)).toNatClampNeg) ∧ MI ρ (gGraph g (xs ((nI i) + (1 : Int32)).toNatClampNeg) (xs ((nI i) + (2 : Int32)).toNatClampNeg)))))) (cwV 2 hts gL_law_X8_graph rfl rfl rfl (by decide +kernel) ⟨Nat.le_of_ble_eq_true rfl, Nat.le_of_ble_eq_true rfl⟩) ⟨stW_blind nwM_ok, va_recv hKM hP.appL (ci := 8) (q0 := 0) rfl wMg0, stW_passA hNM hKM hP hD nwM_ok⟩ rfl rfl hl.1 rfl (lv_room (Nat.le_of_ble_eq_true rfl)) dL_law_149 ⟨Nat.le_of_ble_eq_true rfl, Nat.le_of_ble_eq_true rfl⟩) hS hA hP hD (fun r2 τ H locs hq2 hP hD hS => ?_)
  have hP := hP.turn
  have hD := hD.turn
  refine lv_icmp_eq (tgt := 699) hx hb dL_law_152 (by decide) (fun hc => ?_) (fun hc => ?_)
  · exact nx _ _ _ _ _ _ hq1.2 hq2.2 hP hD hS hl
  · exact absurd (hq1.1.trans hq2.1.symm) hc
set_option maxHeartbeats 4000000 in
set_option maxRecDepth 100000 in
theorem lc1 {p : Program} {l : Launch} {e : Env} {s : State} {m : MethodId} {below : List Frame} {meth : Method} {c : Code} {b L : Nat} {xs : Nat → Int32} {D : va_G} {cA cB : Nat → ClassId} {ad bd : Nat → Nat} {i : Nat} (C : LCx p s m c b L xs D cA cB) (hi : i + 4 ≤ L) (nx : LG p l e s m below meth c b D cA cB ad bd 699 i) : LG p l e s m below meth c b D cA cB ad bd 157 i := by
  obtain ⟨hx, hb, hml, hown, hts, hN, hK, hKM, hX, hbl, hL⟩ := C
  have hA : ∀ q : Nat, s.heap.size ≤ q → (fun q : Nat => s.heap.size ≤ q) q := fun _ h => h
  have hbA : ¬ (fun q : Nat => s.heap.size ≤ q) b := Nat.not_le.mpr hbl
  have hNM : ∀ w ∈ nwM, va_Nw w s := fun w h => by cases h
  intro g σ τ H locs ls hσ hτ hP hD hS hl
  refine lv_aload_n hx hb dL_law_157 rfl (lv_at hl 1 rfl) ?_
  refine lv_aload_n hx hb dL_law_158 rfl (lv_at hl 0 rfl) ?_
  refine lv_iload_n hx hb dL_law_159 rfl (lv_at hl 3 rfl) ?_
  refine lv_iconst (v := (1 : Int32)) hx hb dL_law_160 (by decide) ?_
  refine lv_iadd hx hb dL_law_161 ?_
  refine va_sld hx hb hX hbl hbA hS (l_in (k := 1) hL hi (by decide)) dL_law_162 ?_
  refine lv_aload_n hx hb dL_law_163 rfl (lv_at hl 0 rfl) ?_
  refine lv_iload_n hx hb dL_law_164 rfl (lv_at hl 3 rfl) ?_
  refine lv_iconst (v := (2 : Int32)) hx hb dL_law_165 (by decide) ?_
  refine lv_iadd hx hb dL_law_166 ?_
  refine va_sld hx hb hX hbl hbA hS (l_in (k := 2) hL hi (by decide)) dL_law_167 ?_
  refine lv_aload_n hx hb dL_law_168 rfl (lv_at hl 0 rfl) ?_
  refine lv_iload_n hx hb dL_law_169 rfl (lv_at hl 3 rfl) ?_
  refine lv_iconst (v := (3 : Int32)) hx hb dL_law_170 (by decide) ?_
  refine lv_iadd hx hb dL_law_171 ?_
  refine va_sld hx hb hX hbl hbA hS (l_in (k := 3) hL hi (by decide)) dL_law_172 ?_
  refine l_calli (va_runV (As := [.int (xs ((nI i) + (1 : Int32)).toNatClampNeg), .int (xs ((nI i) + (2 : Int32)).toNatClampNeg), .int (xs ((nI i) + (3 : Int32)).toNatClampNeg)]) (rest := []) ⟨hx, hb, hml, hown, hts⟩ (mtX7_arc l D ad cA (va_A (wX ad cA σ) H.size) σ (xs ((nI i) + (1 : Int32)).toNatClampNeg) (xs ((nI i) + (2 : Int32)).toNatClampNeg) (xs ((nI i) + (3 : Int32)).toNatClampNeg) (fun (r : Int32) (ρ : Sto) => r = rArc g (xs ((nI i) + (1 : Int32)).toNatClampNeg) (xs ((nI i) + (2 : Int32)).toNatClampNeg) (xs ((nI i) + (3 : Int32)).toNatClampNeg) ∧ XI ρ (gArc g (xs ((nI i) + (1 : Int32)).toNatClampNeg) (xs ((nI i) + (2 : Int32)).toNatClampNeg) (xs ((nI i) + (3 : Int32)).toNatClampNeg))) (xArc_ok hσ (fun ρ hρ => (⟨rfl, hρ⟩ : rArc g (xs ((nI i) + (1 : Int32)).toNatClampNeg) (xs ((nI i) + (2 : Int32)).toNatClampNeg) (xs ((nI i) + (3 : Int32)).toNatClampNeg) = rArc g (xs ((nI i) + (1 : Int32)).toNatClampNeg) (xs ((nI i) + (2 : Int32)).toNatClampNeg) (xs ((nI i) + (3 : Int32)).toNatClampNeg) ∧ XI ρ (gArc g (xs ((nI i) + (1 : Int32)).toNatClampNeg) (xs ((nI i) + (2 : Int32)).toNatClampNeg) (xs ((nI i) + (3 : Int32)).toNatClampNeg)))))) (cwV 3 hts gL_law_X7_arc rfl rfl rfl (by decide +kernel) ⟨Nat.le_of_ble_eq_true rfl, Nat.le_of_ble_eq_true rfl⟩) ⟨stW_blind nwX_ok, va_recv hK hP.appL (ci := 7) (q0 := 0) rfl wXg0, stW_passA hN hK hP hD nwX_ok⟩ rfl rfl hl.1 rfl (lv_room (Nat.le_of_ble_eq_true rfl)) dL_law_173 ⟨Nat.le_of_ble_eq_true rfl, Nat.le_of_ble_eq_true rfl⟩) hS hA hP hD (fun r1 σ H locs hq1 hP hD hS => ?_)
  refine lv_aload_n hx hb dL_law_176 rfl (lv_at hl 2 rfl) ?_
  refine lv_aload_n hx hb dL_law_177 rfl (lv_at hl 0 rfl) ?_
  refine lv_iload_n hx hb dL_law_178 rfl (lv_at hl 3 rfl) ?_
  refine lv_iconst (v := (1 : Int32)) hx hb dL_law_179 (by decide) ?_
  refine lv_iadd hx hb dL_law_180 ?_
  refine va_sld hx hb hX hbl hbA hS (l_in (k := 1) hL hi (by decide)) dL_law_181 ?_
  refine lv_aload_n hx hb dL_law_182 rfl (lv_at hl 0 rfl) ?_
  refine lv_iload_n hx hb dL_law_183 rfl (lv_at hl 3 rfl) ?_
  refine lv_iconst (v := (2 : Int32)) hx hb dL_law_184 (by decide) ?_
  refine lv_iadd hx hb dL_law_185 ?_
  refine va_sld hx hb hX hbl hbA hS (l_in (k := 2) hL hi (by decide)) dL_law_186 ?_
  refine lv_aload_n hx hb dL_law_187 rfl (lv_at hl 0 rfl) ?_
  refine lv_iload_n hx hb dL_law_188 rfl (lv_at hl 3 rfl) ?_
  refine lv_iconst (v := (3 : Int32)) hx hb dL_law_189 (by decide) ?_
  refine lv_iadd hx hb dL_law_190 ?_
  refine va_sld hx hb hX hbl hbA hS (l_in (k := 3) hL hi (by decide)) dL_law_191 ?_
  have hP := hP.turn
  have hD := hD.turn
  refine l_calli (va_runV (As := [.int (xs ((nI i) + (1 : Int32)).toNatClampNeg), .int (xs ((nI i) + (2 : Int32)).toNatClampNeg), .int (xs ((nI i) + (3 : Int32)).toNatClampNeg)]) (rest := [.int r1]) ⟨hx, hb, hml, hown, hts⟩ (mtX8_arc l D bd cB (va_A (wM bd cB τ) H.size) τ (xs ((nI i) + (1 : Int32)).toNatClampNeg) (xs ((nI i) + (2 : Int32)).toNatClampNeg) (xs ((nI i) + (3 : Int32)).toNatClampNeg) (fun (r : Int32) (ρ : Sto) => r = rArc g (xs ((nI i) + (1 : Int32)).toNatClampNeg) (xs ((nI i) + (2 : Int32)).toNatClampNeg) (xs ((nI i) + (3 : Int32)).toNatClampNeg) ∧ MI ρ (gArc g (xs ((nI i) + (1 : Int32)).toNatClampNeg) (xs ((nI i) + (2 : Int32)).toNatClampNeg) (xs ((nI i) + (3 : Int32)).toNatClampNeg))) (mArc_ok hτ (fun ρ hρ => (⟨rfl, hρ⟩ : rArc g (xs ((nI i) + (1 : Int32)).toNatClampNeg) (xs ((nI i) + (2 : Int32)).toNatClampNeg) (xs ((nI i) + (3 : Int32)).toNatClampNeg) = rArc g (xs ((nI i) + (1 : Int32)).toNatClampNeg) (xs ((nI i) + (2 : Int32)).toNatClampNeg) (xs ((nI i) + (3 : Int32)).toNatClampNeg) ∧ MI ρ (gArc g (xs ((nI i) + (1 : Int32)).toNatClampNeg) (xs ((nI i) + (2 : Int32)).toNatClampNeg) (xs ((nI i) + (3 : Int32)).toNatClampNeg)))))) (cwV 3 hts gL_law_X8_arc rfl rfl rfl (by decide +kernel) ⟨Nat.le_of_ble_eq_true rfl, Nat.le_of_ble_eq_true rfl⟩) ⟨stW_blind nwM_ok, va_recv hKM hP.appL (ci := 8) (q0 := 0) rfl wMg0, stW_passA hNM hKM hP hD nwM_ok⟩ rfl rfl hl.1 rfl (lv_room (Nat.le_of_ble_eq_true rfl)) dL_law_192 ⟨Nat.le_of_ble_eq_true rfl, Nat.le_of_ble_eq_true rfl⟩) hS hA hP hD (fun r2 τ H locs hq2 hP hD hS => ?_)
  have hP := hP.turn
  have hD := hD.turn
  refine lv_icmp_eq (tgt := 699) hx hb dL_law_195 (by decide) (fun hc => ?_) (fun hc => ?_)
  · exact nx _ _ _ _ _ _ hq1.2 hq2.2 hP hD hS hl
  · exact absurd (hq1.1.trans hq2.1.symm) hc
set_option maxHeartbeats 4000000 in
set_option maxRecDepth 100000 in
theorem lc2 {p : Program} {l : Launch} {e : Env} {s : State} {m : MethodId} {below : List Frame} {meth : Method} {c : Code} {b L : Nat} {xs : Nat → Int32} {D : va_G} {cA cB : Nat → ClassId} {ad bd : Nat → Nat} {i : Nat} (C : LCx p s m c b L xs D cA cB) (hi : i + 4 ≤ L) (nx : LG p l e s m below meth c b D cA cB ad bd 699 i) : LG p l e s m below meth c b D cA cB ad bd 200 i := by
  obtain ⟨hx, hb, hml, hown, hts, hN, hK, hKM, hX, hbl, hL⟩ := C
  have hA : ∀ q : Nat, s.heap.size ≤ q → (fun q : Nat => s.heap.size ≤ q) q := fun _ h => h
  have hbA : ¬ (fun q : Nat => s.heap.size ≤ q) b := Nat.not_le.mpr hbl
  have hNM : ∀ w ∈ nwM, va_Nw w s := fun w h => by cases h
  intro g σ τ H locs ls hσ hτ hP hD hS hl
  refine lv_aload_n hx hb dL_law_200 rfl (lv_at hl 1 rfl) ?_
  refine lv_aload_n hx hb dL_law_201 rfl (lv_at hl 0 rfl) ?_
  refine lv_iload_n hx hb dL_law_202 rfl (lv_at hl 3 rfl) ?_
  refine lv_iconst (v := (1 : Int32)) hx hb dL_law_203 (by decide) ?_
  refine lv_iadd hx hb dL_law_204 ?_
  refine va_sld hx hb hX hbl hbA hS (l_in (k := 1) hL hi (by decide)) dL_law_205 ?_
  refine lv_aload_n hx hb dL_law_206 rfl (lv_at hl 0 rfl) ?_
  refine lv_iload_n hx hb dL_law_207 rfl (lv_at hl 3 rfl) ?_
  refine lv_iconst (v := (2 : Int32)) hx hb dL_law_208 (by decide) ?_
  refine lv_iadd hx hb dL_law_209 ?_
  refine va_sld hx hb hX hbl hbA hS (l_in (k := 2) hL hi (by decide)) dL_law_210 ?_
  refine l_calli (va_runV (As := [.int (xs ((nI i) + (1 : Int32)).toNatClampNeg), .int (xs ((nI i) + (2 : Int32)).toNatClampNeg)]) (rest := []) ⟨hx, hb, hml, hown, hts⟩ (mtX7_group l D ad cA (va_A (wX ad cA σ) H.size) σ (xs ((nI i) + (1 : Int32)).toNatClampNeg) (xs ((nI i) + (2 : Int32)).toNatClampNeg) (fun (r : Int32) (ρ : Sto) => r = rGroup g (xs ((nI i) + (1 : Int32)).toNatClampNeg) (xs ((nI i) + (2 : Int32)).toNatClampNeg) ∧ XI ρ (gGroup g (xs ((nI i) + (1 : Int32)).toNatClampNeg) (xs ((nI i) + (2 : Int32)).toNatClampNeg))) (xGroup_ok hσ (fun ρ hρ => (⟨rfl, hρ⟩ : rGroup g (xs ((nI i) + (1 : Int32)).toNatClampNeg) (xs ((nI i) + (2 : Int32)).toNatClampNeg) = rGroup g (xs ((nI i) + (1 : Int32)).toNatClampNeg) (xs ((nI i) + (2 : Int32)).toNatClampNeg) ∧ XI ρ (gGroup g (xs ((nI i) + (1 : Int32)).toNatClampNeg) (xs ((nI i) + (2 : Int32)).toNatClampNeg)))))) (cwV 2 hts gL_law_X7_group rfl rfl rfl (by decide +kernel) ⟨Nat.le_of_ble_eq_true rfl, Nat.le_of_ble_eq_true rfl⟩) ⟨stW_blind nwX_ok, va_recv hK hP.appL (ci := 7) (q0 := 0) rfl wXg0, stW_passA hN hK hP hD nwX_ok⟩ rfl rfl hl.1 rfl (lv_room (Nat.le_of_ble_eq_true rfl)) dL_law_211 ⟨Nat.le_of_ble_eq_true rfl, Nat.le_of_ble_eq_true rfl⟩) hS hA hP hD (fun r1 σ H locs hq1 hP hD hS => ?_)
  refine lv_aload_n hx hb dL_law_214 rfl (lv_at hl 2 rfl) ?_
  refine lv_aload_n hx hb dL_law_215 rfl (lv_at hl 0 rfl) ?_
  refine lv_iload_n hx hb dL_law_216 rfl (lv_at hl 3 rfl) ?_
  refine lv_iconst (v := (1 : Int32)) hx hb dL_law_217 (by decide) ?_
  refine lv_iadd hx hb dL_law_218 ?_
  refine va_sld hx hb hX hbl hbA hS (l_in (k := 1) hL hi (by decide)) dL_law_219 ?_
  refine lv_aload_n hx hb dL_law_220 rfl (lv_at hl 0 rfl) ?_
  refine lv_iload_n hx hb dL_law_221 rfl (lv_at hl 3 rfl) ?_
  refine lv_iconst (v := (2 : Int32)) hx hb dL_law_222 (by decide) ?_
  refine lv_iadd hx hb dL_law_223 ?_
  refine va_sld hx hb hX hbl hbA hS (l_in (k := 2) hL hi (by decide)) dL_law_224 ?_
  have hP := hP.turn
  have hD := hD.turn
  refine l_calli (va_runV (As := [.int (xs ((nI i) + (1 : Int32)).toNatClampNeg), .int (xs ((nI i) + (2 : Int32)).toNatClampNeg)]) (rest := [.int r1]) ⟨hx, hb, hml, hown, hts⟩ (mtX8_group l D bd cB (va_A (wM bd cB τ) H.size) τ (xs ((nI i) + (1 : Int32)).toNatClampNeg) (xs ((nI i) + (2 : Int32)).toNatClampNeg) (fun (r : Int32) (ρ : Sto) => r = rGroup g (xs ((nI i) + (1 : Int32)).toNatClampNeg) (xs ((nI i) + (2 : Int32)).toNatClampNeg) ∧ MI ρ (gGroup g (xs ((nI i) + (1 : Int32)).toNatClampNeg) (xs ((nI i) + (2 : Int32)).toNatClampNeg))) (mGroup_ok hτ (fun ρ hρ => (⟨rfl, hρ⟩ : rGroup g (xs ((nI i) + (1 : Int32)).toNatClampNeg) (xs ((nI i) + (2 : Int32)).toNatClampNeg) = rGroup g (xs ((nI i) + (1 : Int32)).toNatClampNeg) (xs ((nI i) + (2 : Int32)).toNatClampNeg) ∧ MI ρ (gGroup g (xs ((nI i) + (1 : Int32)).toNatClampNeg) (xs ((nI i) + (2 : Int32)).toNatClampNeg)))))) (cwV 2 hts gL_law_X8_group rfl rfl rfl (by decide +kernel) ⟨Nat.le_of_ble_eq_true rfl, Nat.le_of_ble_eq_true rfl⟩) ⟨stW_blind nwM_ok, va_recv hKM hP.appL (ci := 8) (q0 := 0) rfl wMg0, stW_passA hNM hKM hP hD nwM_ok⟩ rfl rfl hl.1 rfl (lv_room (Nat.le_of_ble_eq_true rfl)) dL_law_225 ⟨Nat.le_of_ble_eq_true rfl, Nat.le_of_ble_eq_true rfl⟩) hS hA hP hD (fun r2 τ H locs hq2 hP hD hS => ?_)
  have hP := hP.turn
  have hD := hD.turn
  refine lv_icmp_eq (tgt := 699) hx hb dL_law_228 (by decide) (fun hc => ?_) (fun hc => ?_)
  · exact nx _ _ _ _ _ _ hq1.2 hq2.2 hP hD hS hl
  · exact absurd (hq1.1.trans hq2.1.symm) hc
set_option maxHeartbeats 4000000 in
set_option maxRecDepth 100000 in
theorem lc3 {p : Program} {l : Launch} {e : Env} {s : State} {m : MethodId} {below : List Frame} {meth : Method} {c : Code} {b L : Nat} {xs : Nat → Int32} {D : va_G} {cA cB : Nat → ClassId} {ad bd : Nat → Nat} {i : Nat} (C : LCx p s m c b L xs D cA cB) (hi : i + 4 ≤ L) (nx : LG p l e s m below meth c b D cA cB ad bd 699 i) : LG p l e s m below meth c b D cA cB ad bd 233 i := by
  obtain ⟨hx, hb, hml, hown, hts, hN, hK, hKM, hX, hbl, hL⟩ := C
  have hA : ∀ q : Nat, s.heap.size ≤ q → (fun q : Nat => s.heap.size ≤ q) q := fun _ h => h
  have hbA : ¬ (fun q : Nat => s.heap.size ≤ q) b := Nat.not_le.mpr hbl
  have hNM : ∀ w ∈ nwM, va_Nw w s := fun w h => by cases h
  intro g σ τ H locs ls hσ hτ hP hD hS hl
  refine lv_aload_n hx hb dL_law_233 rfl (lv_at hl 1 rfl) ?_
  refine lv_aload_n hx hb dL_law_234 rfl (lv_at hl 0 rfl) ?_
  refine lv_iload_n hx hb dL_law_235 rfl (lv_at hl 3 rfl) ?_
  refine lv_iconst (v := (1 : Int32)) hx hb dL_law_236 (by decide) ?_
  refine lv_iadd hx hb dL_law_237 ?_
  refine va_sld hx hb hX hbl hbA hS (l_in (k := 1) hL hi (by decide)) dL_law_238 ?_
  refine lv_aload_n hx hb dL_law_239 rfl (lv_at hl 0 rfl) ?_
  refine lv_iload_n hx hb dL_law_240 rfl (lv_at hl 3 rfl) ?_
  refine lv_iconst (v := (2 : Int32)) hx hb dL_law_241 (by decide) ?_
  refine lv_iadd hx hb dL_law_242 ?_
  refine va_sld hx hb hX hbl hbA hS (l_in (k := 2) hL hi (by decide)) dL_law_243 ?_
  refine lv_aload_n hx hb dL_law_244 rfl (lv_at hl 0 rfl) ?_
  refine lv_iload_n hx hb dL_law_245 rfl (lv_at hl 3 rfl) ?_
  refine lv_iconst (v := (3 : Int32)) hx hb dL_law_246 (by decide) ?_
  refine lv_iadd hx hb dL_law_247 ?_
  refine va_sld hx hb hX hbl hbA hS (l_in (k := 3) hL hi (by decide)) dL_law_248 ?_
  have rest : ∀ is : Bool, (is = true ↔ ¬ (xs ((nI i) + (3 : Int32)).toNatClampNeg) = 0) → W p l e room_1 s m #[Value.ref b] below meth c H locs 50 6582 (lw_Z below #[Value.ref b] s) (F0 m 257 ls [.int (b2i is), .int (xs ((nI i) + (2 : Int32)).toNatClampNeg), .int (xs ((nI i) + (1 : Int32)).toNatClampNeg), .ref (ad 0)]) := by
    intro is his
    refine l_calli (va_runV (As := [.int (xs ((nI i) + (1 : Int32)).toNatClampNeg), .int (xs ((nI i) + (2 : Int32)).toNatClampNeg), .int (b2i is)]) (rest := []) ⟨hx, hb, hml, hown, hts⟩ (mtX7_hide l D ad cA (va_A (wX ad cA σ) H.size) σ (xs ((nI i) + (1 : Int32)).toNatClampNeg) (xs ((nI i) + (2 : Int32)).toNatClampNeg) (b2i is) (fun (r : Int32) (ρ : Sto) => r = rHide g (xs ((nI i) + (1 : Int32)).toNatClampNeg) (xs ((nI i) + (2 : Int32)).toNatClampNeg) ∧ XI ρ (gHide g (xs ((nI i) + (1 : Int32)).toNatClampNeg) (xs ((nI i) + (2 : Int32)).toNatClampNeg) is)) (xHide_ok hσ (fun ρ hρ => (⟨rfl, hρ⟩ : rHide g (xs ((nI i) + (1 : Int32)).toNatClampNeg) (xs ((nI i) + (2 : Int32)).toNatClampNeg) = rHide g (xs ((nI i) + (1 : Int32)).toNatClampNeg) (xs ((nI i) + (2 : Int32)).toNatClampNeg) ∧ XI ρ (gHide g (xs ((nI i) + (1 : Int32)).toNatClampNeg) (xs ((nI i) + (2 : Int32)).toNatClampNeg) is))))) (cwV 3 hts gL_law_X7_hide rfl rfl rfl (by decide +kernel) ⟨Nat.le_of_ble_eq_true rfl, Nat.le_of_ble_eq_true rfl⟩) ⟨stW_blind nwX_ok, va_recv hK hP.appL (ci := 7) (q0 := 0) rfl wXg0, stW_passA hN hK hP hD nwX_ok⟩ rfl rfl hl.1 rfl (lv_room (Nat.le_of_ble_eq_true rfl)) dL_law_257 ⟨Nat.le_of_ble_eq_true rfl, Nat.le_of_ble_eq_true rfl⟩) hS hA hP hD (fun r1 σ H locs hq1 hP hD hS => ?_)
    refine lv_aload_n hx hb dL_law_260 rfl (lv_at hl 2 rfl) ?_
    refine lv_aload_n hx hb dL_law_261 rfl (lv_at hl 0 rfl) ?_
    refine lv_iload_n hx hb dL_law_262 rfl (lv_at hl 3 rfl) ?_
    refine lv_iconst (v := (1 : Int32)) hx hb dL_law_263 (by decide) ?_
    refine lv_iadd hx hb dL_law_264 ?_
    refine va_sld hx hb hX hbl hbA hS (l_in (k := 1) hL hi (by decide)) dL_law_265 ?_
    refine lv_aload_n hx hb dL_law_266 rfl (lv_at hl 0 rfl) ?_
    refine lv_iload_n hx hb dL_law_267 rfl (lv_at hl 3 rfl) ?_
    refine lv_iconst (v := (2 : Int32)) hx hb dL_law_268 (by decide) ?_
    refine lv_iadd hx hb dL_law_269 ?_
    refine va_sld hx hb hX hbl hbA hS (l_in (k := 2) hL hi (by decide)) dL_law_270 ?_
    refine lv_aload_n hx hb dL_law_271 rfl (lv_at hl 0 rfl) ?_
    refine lv_iload_n hx hb dL_law_272 rfl (lv_at hl 3 rfl) ?_
    refine lv_iconst (v := (3 : Int32)) hx hb dL_law_273 (by decide) ?_
    refine lv_iadd hx hb dL_law_274 ?_
    refine va_sld hx hb hX hbl hbA hS (l_in (k := 3) hL hi (by decide)) dL_law_275 ?_
    have fin : W p l e room_1 s m #[Value.ref b] below meth c H locs 50 6582 (lw_Z below #[Value.ref b] s) (F0 m 284 ls [.int (b2i is), .int (xs ((nI i) + (2 : Int32)).toNatClampNeg), .int (xs ((nI i) + (1 : Int32)).toNatClampNeg), .ref (bd 0), .int r1]) := by
      have hP := hP.turn
      have hD := hD.turn
      refine l_calli (va_runV (As := [.int (xs ((nI i) + (1 : Int32)).toNatClampNeg), .int (xs ((nI i) + (2 : Int32)).toNatClampNeg), .int (b2i is)]) (rest := [.int r1]) ⟨hx, hb, hml, hown, hts⟩ (mtX8_hide l D bd cB (va_A (wM bd cB τ) H.size) τ (xs ((nI i) + (1 : Int32)).toNatClampNeg) (xs ((nI i) + (2 : Int32)).toNatClampNeg) (b2i is) (fun (r : Int32) (ρ : Sto) => r = rHide g (xs ((nI i) + (1 : Int32)).toNatClampNeg) (xs ((nI i) + (2 : Int32)).toNatClampNeg) ∧ MI ρ (gHide g (xs ((nI i) + (1 : Int32)).toNatClampNeg) (xs ((nI i) + (2 : Int32)).toNatClampNeg) is)) (mHide_ok hτ (fun ρ hρ => (⟨rfl, hρ⟩ : rHide g (xs ((nI i) + (1 : Int32)).toNatClampNeg) (xs ((nI i) + (2 : Int32)).toNatClampNeg) = rHide g (xs ((nI i) + (1 : Int32)).toNatClampNeg) (xs ((nI i) + (2 : Int32)).toNatClampNeg) ∧ MI ρ (gHide g (xs ((nI i) + (1 : Int32)).toNatClampNeg) (xs ((nI i) + (2 : Int32)).toNatClampNeg) is))))) (cwV 3 hts gL_law_X8_hide rfl rfl rfl (by decide +kernel) ⟨Nat.le_of_ble_eq_true rfl, Nat.le_of_ble_eq_true rfl⟩) ⟨stW_blind nwM_ok, va_recv hKM hP.appL (ci := 8) (q0 := 0) rfl wMg0, stW_passA hNM hKM hP hD nwM_ok⟩ rfl rfl hl.1 rfl (lv_room (Nat.le_of_ble_eq_true rfl)) dL_law_284 ⟨Nat.le_of_ble_eq_true rfl, Nat.le_of_ble_eq_true rfl⟩) hS hA hP hD (fun r2 τ H locs hq2 hP hD hS => ?_)
      have hP := hP.turn
      have hD := hD.turn
      refine lv_icmp_eq (tgt := 699) hx hb dL_law_287 (by decide) (fun hc => ?_) (fun hc => ?_)
      · exact nx _ _ _ _ _ _ hq1.2 hq2.2 hP hD hS hl
      · exact absurd (hq1.1.trans hq2.1.symm) hc
    refine lv_if_eq (tgt := 283) hx hb dL_law_276 (by decide) (fun hc => ?_) (fun hc => ?_)
    · have e9 : is = false := by
        cases e : is
        · rfl
        · exact absurd hc (his.mp e)
      subst e9
      refine lv_iconst (v := (0 : Int32)) hx hb dL_law_283 (by decide) ?_
      exact fin
    · have e9 : is = true := his.mpr hc
      subst e9
      refine lv_iconst (v := (1 : Int32)) hx hb dL_law_279 (by decide) ?_
      refine lv_goto (tgt := 284) hx hb dL_law_280 (by decide) ?_
      exact fin
  refine lv_if_eq (tgt := 256) hx hb dL_law_249 (by decide) (fun hc => ?_) (fun hc => ?_)
  · refine lv_iconst (v := (0 : Int32)) hx hb dL_law_256 (by decide) ?_
    exact rest false ⟨fun q => absurd q (by decide), fun q => absurd hc q⟩
  · refine lv_iconst (v := (1 : Int32)) hx hb dL_law_252 (by decide) ?_
    refine lv_goto (tgt := 257) hx hb dL_law_253 (by decide) ?_
    exact rest true ⟨fun _ => hc, fun _ => rfl⟩
set_option maxHeartbeats 4000000 in
set_option maxRecDepth 100000 in
theorem lc4 {p : Program} {l : Launch} {e : Env} {s : State} {m : MethodId} {below : List Frame} {meth : Method} {c : Code} {b L : Nat} {xs : Nat → Int32} {D : va_G} {cA cB : Nat → ClassId} {ad bd : Nat → Nat} {i : Nat} (C : LCx p s m c b L xs D cA cB) (hi : i + 4 ≤ L) (nx : LG p l e s m below meth c b D cA cB ad bd 699 i) : LG p l e s m below meth c b D cA cB ad bd 292 i := by
  obtain ⟨hx, hb, hml, hown, hts, hN, hK, hKM, hX, hbl, hL⟩ := C
  have hA : ∀ q : Nat, s.heap.size ≤ q → (fun q : Nat => s.heap.size ≤ q) q := fun _ h => h
  have hbA : ¬ (fun q : Nat => s.heap.size ≤ q) b := Nat.not_le.mpr hbl
  have hNM : ∀ w ∈ nwM, va_Nw w s := fun w h => by cases h
  intro g σ τ H locs ls hσ hτ hP hD hS hl
  refine lv_aload_n hx hb dL_law_292 rfl (lv_at hl 1 rfl) ?_
  refine lv_aload_n hx hb dL_law_293 rfl (lv_at hl 0 rfl) ?_
  refine lv_iload_n hx hb dL_law_294 rfl (lv_at hl 3 rfl) ?_
  refine lv_iconst (v := (1 : Int32)) hx hb dL_law_295 (by decide) ?_
  refine lv_iadd hx hb dL_law_296 ?_
  refine va_sld hx hb hX hbl hbA hS (l_in (k := 1) hL hi (by decide)) dL_law_297 ?_
  refine l_calli (va_runV (As := [.int (xs ((nI i) + (1 : Int32)).toNatClampNeg)]) (rest := []) ⟨hx, hb, hml, hown, hts⟩ (mtX7_since l D ad cA (va_A (wX ad cA σ) H.size) σ (xs ((nI i) + (1 : Int32)).toNatClampNeg) (fun (r : Int32) (ρ : Sto) => r = rSince g (xs ((nI i) + (1 : Int32)).toNatClampNeg) ∧ XI ρ (gSince g (xs ((nI i) + (1 : Int32)).toNatClampNeg))) (xSince_ok hσ (fun ρ hρ => (⟨rfl, hρ⟩ : rSince g (xs ((nI i) + (1 : Int32)).toNatClampNeg) = rSince g (xs ((nI i) + (1 : Int32)).toNatClampNeg) ∧ XI ρ (gSince g (xs ((nI i) + (1 : Int32)).toNatClampNeg)))))) (cwV 1 hts gL_law_X7_since rfl rfl rfl (by decide +kernel) ⟨Nat.le_of_ble_eq_true rfl, Nat.le_of_ble_eq_true rfl⟩) ⟨stW_blind nwX_ok, va_recv hK hP.appL (ci := 7) (q0 := 0) rfl wXg0, stW_passA hN hK hP hD nwX_ok⟩ rfl rfl hl.1 rfl (lv_room (Nat.le_of_ble_eq_true rfl)) dL_law_298 ⟨Nat.le_of_ble_eq_true rfl, Nat.le_of_ble_eq_true rfl⟩) hS hA hP hD (fun r1 σ H locs hq1 hP hD hS => ?_)
  refine lv_aload_n hx hb dL_law_301 rfl (lv_at hl 2 rfl) ?_
  refine lv_aload_n hx hb dL_law_302 rfl (lv_at hl 0 rfl) ?_
  refine lv_iload_n hx hb dL_law_303 rfl (lv_at hl 3 rfl) ?_
  refine lv_iconst (v := (1 : Int32)) hx hb dL_law_304 (by decide) ?_
  refine lv_iadd hx hb dL_law_305 ?_
  refine va_sld hx hb hX hbl hbA hS (l_in (k := 1) hL hi (by decide)) dL_law_306 ?_
  have hP := hP.turn
  have hD := hD.turn
  refine l_calli (va_runV (As := [.int (xs ((nI i) + (1 : Int32)).toNatClampNeg)]) (rest := [.int r1]) ⟨hx, hb, hml, hown, hts⟩ (mtX8_since l D bd cB (va_A (wM bd cB τ) H.size) τ (xs ((nI i) + (1 : Int32)).toNatClampNeg) (fun (r : Int32) (ρ : Sto) => r = rSince g (xs ((nI i) + (1 : Int32)).toNatClampNeg) ∧ MI ρ (gSince g (xs ((nI i) + (1 : Int32)).toNatClampNeg))) (mSince_ok hτ (fun ρ hρ => (⟨rfl, hρ⟩ : rSince g (xs ((nI i) + (1 : Int32)).toNatClampNeg) = rSince g (xs ((nI i) + (1 : Int32)).toNatClampNeg) ∧ MI ρ (gSince g (xs ((nI i) + (1 : Int32)).toNatClampNeg)))))) (cwV 1 hts gL_law_X8_since rfl rfl rfl (by decide +kernel) ⟨Nat.le_of_ble_eq_true rfl, Nat.le_of_ble_eq_true rfl⟩) ⟨stW_blind nwM_ok, va_recv hKM hP.appL (ci := 8) (q0 := 0) rfl wMg0, stW_passA hNM hKM hP hD nwM_ok⟩ rfl rfl hl.1 rfl (lv_room (Nat.le_of_ble_eq_true rfl)) dL_law_307 ⟨Nat.le_of_ble_eq_true rfl, Nat.le_of_ble_eq_true rfl⟩) hS hA hP hD (fun r2 τ H locs hq2 hP hD hS => ?_)
  have hP := hP.turn
  have hD := hD.turn
  refine lv_icmp_eq (tgt := 699) hx hb dL_law_310 (by decide) (fun hc => ?_) (fun hc => ?_)
  · exact nx _ _ _ _ _ _ hq1.2 hq2.2 hP hD hS hl
  · exact absurd (hq1.1.trans hq2.1.symm) hc
set_option maxHeartbeats 4000000 in
set_option maxRecDepth 100000 in
theorem lc5 {p : Program} {l : Launch} {e : Env} {s : State} {m : MethodId} {below : List Frame} {meth : Method} {c : Code} {b L : Nat} {xs : Nat → Int32} {D : va_G} {cA cB : Nat → ClassId} {ad bd : Nat → Nat} {i : Nat} (C : LCx p s m c b L xs D cA cB) (hi : i + 4 ≤ L) (nx : LG p l e s m below meth c b D cA cB ad bd 699 i) : LG p l e s m below meth c b D cA cB ad bd 315 i := by
  obtain ⟨hx, hb, hml, hown, hts, hN, hK, hKM, hX, hbl, hL⟩ := C
  have hA : ∀ q : Nat, s.heap.size ≤ q → (fun q : Nat => s.heap.size ≤ q) q := fun _ h => h
  have hbA : ¬ (fun q : Nat => s.heap.size ≤ q) b := Nat.not_le.mpr hbl
  have hNM : ∀ w ∈ nwM, va_Nw w s := fun w h => by cases h
  intro g σ τ H locs ls hσ hτ hP hD hS hl
  refine lv_aload_n hx hb dL_law_315 rfl (lv_at hl 1 rfl) ?_
  refine lv_aload_n hx hb dL_law_316 rfl (lv_at hl 0 rfl) ?_
  refine lv_iload_n hx hb dL_law_317 rfl (lv_at hl 3 rfl) ?_
  refine lv_iconst (v := (1 : Int32)) hx hb dL_law_318 (by decide) ?_
  refine lv_iadd hx hb dL_law_319 ?_
  refine va_sld hx hb hX hbl hbA hS (l_in (k := 1) hL hi (by decide)) dL_law_320 ?_
  refine lv_aload_n hx hb dL_law_321 rfl (lv_at hl 0 rfl) ?_
  refine lv_iload_n hx hb dL_law_322 rfl (lv_at hl 3 rfl) ?_
  refine lv_iconst (v := (2 : Int32)) hx hb dL_law_323 (by decide) ?_
  refine lv_iadd hx hb dL_law_324 ?_
  refine va_sld hx hb hX hbl hbA hS (l_in (k := 2) hL hi (by decide)) dL_law_325 ?_
  refine lv_aload_n hx hb dL_law_326 rfl (lv_at hl 0 rfl) ?_
  refine lv_iload_n hx hb dL_law_327 rfl (lv_at hl 3 rfl) ?_
  refine lv_iconst (v := (3 : Int32)) hx hb dL_law_328 (by decide) ?_
  refine lv_iadd hx hb dL_law_329 ?_
  refine va_sld hx hb hX hbl hbA hS (l_in (k := 3) hL hi (by decide)) dL_law_330 ?_
  refine l_calli (va_runV (As := [.int (xs ((nI i) + (1 : Int32)).toNatClampNeg), .int (xs ((nI i) + (2 : Int32)).toNatClampNeg), .int (xs ((nI i) + (3 : Int32)).toNatClampNeg)]) (rest := []) ⟨hx, hb, hml, hown, hts⟩ (mtX7_split l D ad cA (va_A (wX ad cA σ) H.size) σ (xs ((nI i) + (1 : Int32)).toNatClampNeg) (xs ((nI i) + (2 : Int32)).toNatClampNeg) (xs ((nI i) + (3 : Int32)).toNatClampNeg) (fun (r : Int32) (ρ : Sto) => r = rSplit g (xs ((nI i) + (1 : Int32)).toNatClampNeg) (xs ((nI i) + (2 : Int32)).toNatClampNeg) (xs ((nI i) + (3 : Int32)).toNatClampNeg) ∧ XI ρ (gSplit g (xs ((nI i) + (1 : Int32)).toNatClampNeg) (xs ((nI i) + (2 : Int32)).toNatClampNeg) (xs ((nI i) + (3 : Int32)).toNatClampNeg))) (xSplit_ok hσ (fun ρ hρ => (⟨rfl, hρ⟩ : rSplit g (xs ((nI i) + (1 : Int32)).toNatClampNeg) (xs ((nI i) + (2 : Int32)).toNatClampNeg) (xs ((nI i) + (3 : Int32)).toNatClampNeg) = rSplit g (xs ((nI i) + (1 : Int32)).toNatClampNeg) (xs ((nI i) + (2 : Int32)).toNatClampNeg) (xs ((nI i) + (3 : Int32)).toNatClampNeg) ∧ XI ρ (gSplit g (xs ((nI i) + (1 : Int32)).toNatClampNeg) (xs ((nI i) + (2 : Int32)).toNatClampNeg) (xs ((nI i) + (3 : Int32)).toNatClampNeg)))))) (cwV 3 hts gL_law_X7_split rfl rfl rfl (by decide +kernel) ⟨Nat.le_of_ble_eq_true rfl, Nat.le_of_ble_eq_true rfl⟩) ⟨stW_blind nwX_ok, va_recv hK hP.appL (ci := 7) (q0 := 0) rfl wXg0, stW_passA hN hK hP hD nwX_ok⟩ rfl rfl hl.1 rfl (lv_room (Nat.le_of_ble_eq_true rfl)) dL_law_331 ⟨Nat.le_of_ble_eq_true rfl, Nat.le_of_ble_eq_true rfl⟩) hS hA hP hD (fun r1 σ H locs hq1 hP hD hS => ?_)
  refine lv_aload_n hx hb dL_law_334 rfl (lv_at hl 2 rfl) ?_
  refine lv_aload_n hx hb dL_law_335 rfl (lv_at hl 0 rfl) ?_
  refine lv_iload_n hx hb dL_law_336 rfl (lv_at hl 3 rfl) ?_
  refine lv_iconst (v := (1 : Int32)) hx hb dL_law_337 (by decide) ?_
  refine lv_iadd hx hb dL_law_338 ?_
  refine va_sld hx hb hX hbl hbA hS (l_in (k := 1) hL hi (by decide)) dL_law_339 ?_
  refine lv_aload_n hx hb dL_law_340 rfl (lv_at hl 0 rfl) ?_
  refine lv_iload_n hx hb dL_law_341 rfl (lv_at hl 3 rfl) ?_
  refine lv_iconst (v := (2 : Int32)) hx hb dL_law_342 (by decide) ?_
  refine lv_iadd hx hb dL_law_343 ?_
  refine va_sld hx hb hX hbl hbA hS (l_in (k := 2) hL hi (by decide)) dL_law_344 ?_
  refine lv_aload_n hx hb dL_law_345 rfl (lv_at hl 0 rfl) ?_
  refine lv_iload_n hx hb dL_law_346 rfl (lv_at hl 3 rfl) ?_
  refine lv_iconst (v := (3 : Int32)) hx hb dL_law_347 (by decide) ?_
  refine lv_iadd hx hb dL_law_348 ?_
  refine va_sld hx hb hX hbl hbA hS (l_in (k := 3) hL hi (by decide)) dL_law_349 ?_
  have hP := hP.turn
  have hD := hD.turn
  refine l_calli (va_runV (As := [.int (xs ((nI i) + (1 : Int32)).toNatClampNeg), .int (xs ((nI i) + (2 : Int32)).toNatClampNeg), .int (xs ((nI i) + (3 : Int32)).toNatClampNeg)]) (rest := [.int r1]) ⟨hx, hb, hml, hown, hts⟩ (mtX8_split l D bd cB (va_A (wM bd cB τ) H.size) τ (xs ((nI i) + (1 : Int32)).toNatClampNeg) (xs ((nI i) + (2 : Int32)).toNatClampNeg) (xs ((nI i) + (3 : Int32)).toNatClampNeg) (fun (r : Int32) (ρ : Sto) => r = rSplit g (xs ((nI i) + (1 : Int32)).toNatClampNeg) (xs ((nI i) + (2 : Int32)).toNatClampNeg) (xs ((nI i) + (3 : Int32)).toNatClampNeg) ∧ MI ρ (gSplit g (xs ((nI i) + (1 : Int32)).toNatClampNeg) (xs ((nI i) + (2 : Int32)).toNatClampNeg) (xs ((nI i) + (3 : Int32)).toNatClampNeg))) (mSplit_ok hτ (fun ρ hρ => (⟨rfl, hρ⟩ : rSplit g (xs ((nI i) + (1 : Int32)).toNatClampNeg) (xs ((nI i) + (2 : Int32)).toNatClampNeg) (xs ((nI i) + (3 : Int32)).toNatClampNeg) = rSplit g (xs ((nI i) + (1 : Int32)).toNatClampNeg) (xs ((nI i) + (2 : Int32)).toNatClampNeg) (xs ((nI i) + (3 : Int32)).toNatClampNeg) ∧ MI ρ (gSplit g (xs ((nI i) + (1 : Int32)).toNatClampNeg) (xs ((nI i) + (2 : Int32)).toNatClampNeg) (xs ((nI i) + (3 : Int32)).toNatClampNeg)))))) (cwV 3 hts gL_law_X8_split rfl rfl rfl (by decide +kernel) ⟨Nat.le_of_ble_eq_true rfl, Nat.le_of_ble_eq_true rfl⟩) ⟨stW_blind nwM_ok, va_recv hKM hP.appL (ci := 8) (q0 := 0) rfl wMg0, stW_passA hNM hKM hP hD nwM_ok⟩ rfl rfl hl.1 rfl (lv_room (Nat.le_of_ble_eq_true rfl)) dL_law_350 ⟨Nat.le_of_ble_eq_true rfl, Nat.le_of_ble_eq_true rfl⟩) hS hA hP hD (fun r2 τ H locs hq2 hP hD hS => ?_)
  have hP := hP.turn
  have hD := hD.turn
  refine lv_icmp_eq (tgt := 699) hx hb dL_law_353 (by decide) (fun hc => ?_) (fun hc => ?_)
  · exact nx _ _ _ _ _ _ hq1.2 hq2.2 hP hD hS hl
  · exact absurd (hq1.1.trans hq2.1.symm) hc
set_option maxHeartbeats 4000000 in
set_option maxRecDepth 100000 in
theorem lc6 {p : Program} {l : Launch} {e : Env} {s : State} {m : MethodId} {below : List Frame} {meth : Method} {c : Code} {b L : Nat} {xs : Nat → Int32} {D : va_G} {cA cB : Nat → ClassId} {ad bd : Nat → Nat} {i : Nat} (C : LCx p s m c b L xs D cA cB) (hi : i + 4 ≤ L) (nx : LG p l e s m below meth c b D cA cB ad bd 699 i) : LG p l e s m below meth c b D cA cB ad bd 358 i := by
  obtain ⟨hx, hb, hml, hown, hts, hN, hK, hKM, hX, hbl, hL⟩ := C
  have hA : ∀ q : Nat, s.heap.size ≤ q → (fun q : Nat => s.heap.size ≤ q) q := fun _ h => h
  have hbA : ¬ (fun q : Nat => s.heap.size ≤ q) b := Nat.not_le.mpr hbl
  have hNM : ∀ w ∈ nwM, va_Nw w s := fun w h => by cases h
  intro g σ τ H locs ls hσ hτ hP hD hS hl
  refine lv_aload_n hx hb dL_law_358 rfl (lv_at hl 1 rfl) ?_
  refine lv_aload_n hx hb dL_law_359 rfl (lv_at hl 0 rfl) ?_
  refine lv_iload_n hx hb dL_law_360 rfl (lv_at hl 3 rfl) ?_
  refine lv_iconst (v := (1 : Int32)) hx hb dL_law_361 (by decide) ?_
  refine lv_iadd hx hb dL_law_362 ?_
  refine va_sld hx hb hX hbl hbA hS (l_in (k := 1) hL hi (by decide)) dL_law_363 ?_
  refine l_calli (va_runV (As := [.int (xs ((nI i) + (1 : Int32)).toNatClampNeg)]) (rest := []) ⟨hx, hb, hml, hown, hts⟩ (mtX7_count l D ad cA (va_A (wX ad cA σ) H.size) σ (xs ((nI i) + (1 : Int32)).toNatClampNeg) (fun (r : Int32) (ρ : Sto) => r = rCount g (xs ((nI i) + (1 : Int32)).toNatClampNeg) ∧ XI ρ (g)) (xCount_ok hσ (fun ρ hρ => (⟨rfl, hρ⟩ : rCount g (xs ((nI i) + (1 : Int32)).toNatClampNeg) = rCount g (xs ((nI i) + (1 : Int32)).toNatClampNeg) ∧ XI ρ (g))))) (cwV 1 hts gL_law_X7_count rfl rfl rfl (by decide +kernel) ⟨Nat.le_of_ble_eq_true rfl, Nat.le_of_ble_eq_true rfl⟩) ⟨stW_blind nwX_ok, va_recv hK hP.appL (ci := 7) (q0 := 0) rfl wXg0, stW_passA hN hK hP hD nwX_ok⟩ rfl rfl hl.1 rfl (lv_room (Nat.le_of_ble_eq_true rfl)) dL_law_364 ⟨Nat.le_of_ble_eq_true rfl, Nat.le_of_ble_eq_true rfl⟩) hS hA hP hD (fun r1 σ H locs hq1 hP hD hS => ?_)
  refine lv_aload_n hx hb dL_law_367 rfl (lv_at hl 2 rfl) ?_
  refine lv_aload_n hx hb dL_law_368 rfl (lv_at hl 0 rfl) ?_
  refine lv_iload_n hx hb dL_law_369 rfl (lv_at hl 3 rfl) ?_
  refine lv_iconst (v := (1 : Int32)) hx hb dL_law_370 (by decide) ?_
  refine lv_iadd hx hb dL_law_371 ?_
  refine va_sld hx hb hX hbl hbA hS (l_in (k := 1) hL hi (by decide)) dL_law_372 ?_
  have hP := hP.turn
  have hD := hD.turn
  refine l_calli (va_runV (As := [.int (xs ((nI i) + (1 : Int32)).toNatClampNeg)]) (rest := [.int r1]) ⟨hx, hb, hml, hown, hts⟩ (mtX8_count l D bd cB (va_A (wM bd cB τ) H.size) τ (xs ((nI i) + (1 : Int32)).toNatClampNeg) (fun (r : Int32) (ρ : Sto) => r = rCount g (xs ((nI i) + (1 : Int32)).toNatClampNeg) ∧ MI ρ (g)) (mCount_ok hτ (fun ρ hρ => (⟨rfl, hρ⟩ : rCount g (xs ((nI i) + (1 : Int32)).toNatClampNeg) = rCount g (xs ((nI i) + (1 : Int32)).toNatClampNeg) ∧ MI ρ (g))))) (cwV 1 hts gL_law_X8_count rfl rfl rfl (by decide +kernel) ⟨Nat.le_of_ble_eq_true rfl, Nat.le_of_ble_eq_true rfl⟩) ⟨stW_blind nwM_ok, va_recv hKM hP.appL (ci := 8) (q0 := 0) rfl wMg0, stW_passA hNM hKM hP hD nwM_ok⟩ rfl rfl hl.1 rfl (lv_room (Nat.le_of_ble_eq_true rfl)) dL_law_373 ⟨Nat.le_of_ble_eq_true rfl, Nat.le_of_ble_eq_true rfl⟩) hS hA hP hD (fun r2 τ H locs hq2 hP hD hS => ?_)
  have hP := hP.turn
  have hD := hD.turn
  refine lv_icmp_eq (tgt := 699) hx hb dL_law_376 (by decide) (fun hc => ?_) (fun hc => ?_)
  · exact nx _ _ _ _ _ _ hq1.2 hq2.2 hP hD hS hl
  · exact absurd (hq1.1.trans hq2.1.symm) hc
