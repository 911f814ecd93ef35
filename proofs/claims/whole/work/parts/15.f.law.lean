/-! the law: the loop, and the start -/
set_option maxHeartbeats 4000000 in
set_option maxRecDepth 100000 in
theorem lnext {p : Program} {l : Launch} {e : Env} {s : State} {m : MethodId} {below : List Frame} {meth : Method} {c : Code} {b L : Nat} {xs : Nat → Int32} {D : va_G} {cA cB : Nat → ClassId} {ad bd : Nat → Nat} {i : Nat} (C : LCx p s m c b L xs D cA cB) (nx : LG p l e s m below meth c b D cA cB ad bd 18 (i + 4)) : LG p l e s m below meth c b D cA cB ad bd 699 i := by
  obtain ⟨hx, hb, hml, hown, hts, hN, hK, hKM, hX, hbl, hL⟩ := C
  intro g σ τ H locs ls hσ hτ hP hD hS hl
  refine lv_iinc (v := nI (i + 4)) (lv' := [(3, .int (nI (i + 4))), (0, .ref b), (1, .ref (ad 0)), (2, .ref (bd 0))]) hx hb dL_law_699 hl (k := 3) rfl (nI_add i 4) (by decide) rfl (fun ls hl => ?_)
  refine lv_goto (tgt := 18) hx hb dL_law_702 (by decide) ?_
  exact nx g σ τ H locs ls hσ hτ hP hD hS (lv_sub hl [1, 2, 3, 0] rfl)
set_option maxHeartbeats 4000000 in
set_option maxRecDepth 100000 in
theorem lhead {p : Program} {l : Launch} {e : Env} {s : State} {m : MethodId} {below : List Frame} {meth : Method} {c : Code} {b L : Nat} {xs : Nat → Int32} {D : va_G} {cA cB : Nat → ClassId} {ad bd : Nat → Nat} {i : Nat} (C : LCx p s m c b L xs D cA cB) (hr : meth.sig.returnType = ret) (hlocks : meth.locks = false) (hi : i ≤ 4096) (nx : i + 4 ≤ L → LG p l e s m below meth c b D cA cB ad bd 18 (i + 4)) : LG p l e s m below meth c b D cA cB ad bd 18 i := by
  obtain ⟨hx, hb, hml, hown, hts, hN, hK, hKM, hX, hbl, hL⟩ := id C
  have hA : ∀ q : Nat, s.heap.size ≤ q → (fun q : Nat => s.heap.size ≤ q) q := fun _ h => h
  have hbA : ¬ (fun q : Nat => s.heap.size ≤ q) b := Nat.not_le.mpr hbl
  intro g σ τ H locs ls hσ hτ hP hD hS hl
  refine lv_iload_n hx hb dL_law_18 rfl (lv_at hl 3 rfl) ?_
  refine lv_aload_n hx hb dL_law_19 rfl (lv_at hl 0 rfl) ?_
  refine va_slen hx hb hX hbl hbA hS dL_law_20 ?_
  refine lv_iconst (v := (4 : Int32)) hx hb dL_law_21 (by decide) ?_
  refine lv_isub hx hb dL_law_22 ?_
  have eL : (nI L - (4 : Int32)).toInt = (L : Int) - 4 := pk_sub_toInt (a := L) (b := 4) (by omega) (by omega)
  have eI : (nI i).toInt = (i : Int) := nI_toInt (by omega)
  refine lv_icmp_gt (tgt := 705) hx hb dL_law_23 (by decide) (fun hc => ?_) (fun hc => ?_)
  · refine lv_iconst (v := (1 : Int32)) hx hb dL_law_705 (by decide) ?_
    refine va_forget (fun q hq => hS.2.2 q hq) ?_
    refine W.widen (k := 600000) (n := 7302250) (by omega) (by omega) ?_
    exact lw_ret hx hb hr hlocks dL_law_706
  · have hi4 : i + 4 ≤ L := by
      have hc : ¬ (nI L - (4 : Int32)) < nI i := hc
      rw [Int32.lt_iff_toInt_lt, eL, eI] at hc
      omega
    have n9 := lnext C (nx hi4)
    refine lv_aload_n hx hb dL_law_26 rfl (lv_at hl 0 rfl) ?_
    refine lv_iload_n hx hb dL_law_27 rfl (lv_at hl 3 rfl) ?_
    refine va_sld hx hb hX hbl hbA hS (l_in0 hL hi4) dL_law_28 ?_
    refine lv_bipush (v := (31 : Int32)) hx hb dL_law_29 (by decide) ?_
    refine lv_iand hx hb dL_law_31 ?_
    generalize (xs (nI i).toNatClampNeg &&& (31 : Int32)) = w
    by_cases hc0 : w = (0 : Int32)
    · refine lv_tableIn (off := 92) (tgt := 124) hx hb dL_law_32 (by rw [hc0]; decide) (by rw [hc0]; decide) (by rw [hc0]; rfl) (by decide) ?_
      exact lc0 C hi4 n9 g σ τ H locs ls hσ hτ hP hD hS hl
    by_cases hc1 : w = (1 : Int32)
    · refine lv_tableIn (off := 125) (tgt := 157) hx hb dL_law_32 (by rw [hc1]; decide) (by rw [hc1]; decide) (by rw [hc1]; rfl) (by decide) ?_
      exact lc1 C hi4 n9 g σ τ H locs ls hσ hτ hP hD hS hl
    by_cases hc2 : w = (2 : Int32)
    · refine lv_tableIn (off := 168) (tgt := 200) hx hb dL_law_32 (by rw [hc2]; decide) (by rw [hc2]; decide) (by rw [hc2]; rfl) (by decide) ?_
      exact lc2 C hi4 n9 g σ τ H locs ls hσ hτ hP hD hS hl
    by_cases hc3 : w = (3 : Int32)
    · refine lv_tableIn (off := 201) (tgt := 233) hx hb dL_law_32 (by rw [hc3]; decide) (by rw [hc3]; decide) (by rw [hc3]; rfl) (by decide) ?_
      exact lc3 C hi4 n9 g σ τ H locs ls hσ hτ hP hD hS hl
    by_cases hc4 : w = (4 : Int32)
    · refine lv_tableIn (off := 260) (tgt := 292) hx hb dL_law_32 (by rw [hc4]; decide) (by rw [hc4]; decide) (by rw [hc4]; rfl) (by decide) ?_
      exact lc4 C hi4 n9 g σ τ H locs ls hσ hτ hP hD hS hl
    by_cases hc5 : w = (5 : Int32)
    · refine lv_tableIn (off := 283) (tgt := 315) hx hb dL_law_32 (by rw [hc5]; decide) (by rw [hc5]; decide) (by rw [hc5]; rfl) (by decide) ?_
      exact lc5 C hi4 n9 g σ τ H locs ls hσ hτ hP hD hS hl
    by_cases hc6 : w = (6 : Int32)
    · refine lv_tableIn (off := 326) (tgt := 358) hx hb dL_law_32 (by rw [hc6]; decide) (by rw [hc6]; decide) (by rw [hc6]; rfl) (by decide) ?_
      exact lc6 C hi4 n9 g σ τ H locs ls hσ hτ hP hD hS hl
    by_cases hc7 : w = (7 : Int32)
    · refine lv_tableIn (off := 349) (tgt := 381) hx hb dL_law_32 (by rw [hc7]; decide) (by rw [hc7]; decide) (by rw [hc7]; rfl) (by decide) ?_
      exact lc7 C hi4 n9 g σ τ H locs ls hσ hτ hP hD hS hl
    by_cases hc8 : w = (8 : Int32)
    · refine lv_tableIn (off := 392) (tgt := 424) hx hb dL_law_32 (by rw [hc8]; decide) (by rw [hc8]; decide) (by rw [hc8]; rfl) (by decide) ?_
      exact lc8 C hi4 n9 g σ τ H locs ls hσ hτ hP hD hS hl
    by_cases hc9 : w = (9 : Int32)
    · refine lv_tableIn (off := 425) (tgt := 457) hx hb dL_law_32 (by rw [hc9]; decide) (by rw [hc9]; decide) (by rw [hc9]; rfl) (by decide) ?_
      exact lc9 C hi4 n9 g σ τ H locs ls hσ hτ hP hD hS hl
    by_cases hc10 : w = (10 : Int32)
    · refine lv_tableIn (off := 448) (tgt := 480) hx hb dL_law_32 (by rw [hc10]; decide) (by rw [hc10]; decide) (by rw [hc10]; rfl) (by decide) ?_
      exact lc10 C hi4 n9 g σ τ H locs ls hσ hτ hP hD hS hl
    by_cases hc11 : w = (11 : Int32)
    · refine lv_tableIn (off := 491) (tgt := 523) hx hb dL_law_32 (by rw [hc11]; decide) (by rw [hc11]; decide) (by rw [hc11]; rfl) (by decide) ?_
      exact lc11 C hi4 n9 g σ τ H locs ls hσ hτ hP hD hS hl
    by_cases hc12 : w = (12 : Int32)
    · refine lv_tableIn (off := 505) (tgt := 537) hx hb dL_law_32 (by rw [hc12]; decide) (by rw [hc12]; decide) (by rw [hc12]; rfl) (by decide) ?_
      exact lc12 C hi4 n9 g σ τ H locs ls hσ hτ hP hD hS hl
    by_cases hc13 : w = (13 : Int32)
    · refine lv_tableIn (off := 519) (tgt := 551) hx hb dL_law_32 (by rw [hc13]; decide) (by rw [hc13]; decide) (by rw [hc13]; rfl) (by decide) ?_
      exact lc13 C hi4 n9 g σ τ H locs ls hσ hτ hP hD hS hl
    by_cases hc14 : w = (14 : Int32)
    · refine lv_tableIn (off := 542) (tgt := 574) hx hb dL_law_32 (by rw [hc14]; decide) (by rw [hc14]; decide) (by rw [hc14]; rfl) (by decide) ?_
      exact lc14 C hi4 n9 g σ τ H locs ls hσ hτ hP hD hS hl
    by_cases hc15 : w = (15 : Int32)
    · refine lv_tableIn (off := 575) (tgt := 607) hx hb dL_law_32 (by rw [hc15]; decide) (by rw [hc15]; decide) (by rw [hc15]; rfl) (by decide) ?_
      exact lc15 C hi4 n9 g σ τ H locs ls hσ hτ hP hD hS hl
    by_cases hc16 : w = (16 : Int32)
    · refine lv_tableIn (off := 598) (tgt := 630) hx hb dL_law_32 (by rw [hc16]; decide) (by rw [hc16]; decide) (by rw [hc16]; rfl) (by decide) ?_
      exact lc16 C hi4 n9 g σ τ H locs ls hσ hτ hP hD hS hl
    by_cases hc17 : w = (17 : Int32)
    · refine lv_tableIn (off := 611) (tgt := 643) hx hb dL_law_32 (by rw [hc17]; decide) (by rw [hc17]; decide) (by rw [hc17]; rfl) (by decide) ?_
      exact lc17 C hi4 n9 g σ τ H locs ls hσ hτ hP hD hS hl
    by_cases hc18 : w = (18 : Int32)
    · refine lv_tableIn (off := 634) (tgt := 666) hx hb dL_law_32 (by rw [hc18]; decide) (by rw [hc18]; decide) (by rw [hc18]; rfl) (by decide) ?_
      exact lc18 C hi4 n9 g σ τ H locs ls hσ hτ hP hD hS hl
    refine lv_tableOut (tgt := 699) hx hb dL_law_32 (by have e0 := lv_neT hc0 (a := 0) (by decide); have e1 := lv_neT hc1 (a := 1) (by decide); have e2 := lv_neT hc2 (a := 2) (by decide); have e3 := lv_neT hc3 (a := 3) (by decide); have e4 := lv_neT hc4 (a := 4) (by decide); have e5 := lv_neT hc5 (a := 5) (by decide); have e6 := lv_neT hc6 (a := 6) (by decide); have e7 := lv_neT hc7 (a := 7) (by decide); have e8 := lv_neT hc8 (a := 8) (by decide); have e9 := lv_neT hc9 (a := 9) (by decide); have e10 := lv_neT hc10 (a := 10) (by decide); have e11 := lv_neT hc11 (a := 11) (by decide); have e12 := lv_neT hc12 (a := 12) (by decide); have e13 := lv_neT hc13 (a := 13) (by decide); have e14 := lv_neT hc14 (a := 14) (by decide); have e15 := lv_neT hc15 (a := 15) (by decide); have e16 := lv_neT hc16 (a := 16) (by decide); have e17 := lv_neT hc17 (a := 17) (by decide); have e18 := lv_neT hc18 (a := 18) (by decide); omega) (by decide) ?_
    exact n9 g σ τ H locs ls hσ hτ hP hD hS hl
theorem lloop {p : Program} {l : Launch} {e : Env} {s : State} {m : MethodId} {below : List Frame} {meth : Method} {c : Code} {b L : Nat} {xs : Nat → Int32} {D : va_G} {cA cB : Nat → ClassId} {ad bd : Nat → Nat} (C : LCx p s m c b L xs D cA cB) (hr : meth.sig.returnType = ret) (hlocks : meth.locks = false) : ∀ n i : Nat, L < i + 4 * n → i ≤ 4096 → LG p l e s m below meth c b D cA cB ad bd 18 i
  | 0, i, h, hi => lhead C hr hlocks hi (fun q => by omega)
  | n + 1, i, h, hi => lhead C hr hlocks hi (fun q => lloop C hr hlocks n (i + 4) (by omega) (by
      have := C.2.2.2.2.2.2.2.2.2.2
      omega))
theorem arrK {ty : FieldType} {args : Array Value} {s : State} (h : (Cond.arrayClass ty).before args s = true) : ∃ cA : ClassId, ArrOfT s cA ty ∧ s.vm.findClass ("[" ++ ty.toString) = some cA := by
  obtain ⟨cA, kA, comp, hfind, hk, hkind⟩ := Cond.arrayClass_spec h
  exact ⟨cA, fun n z => ⟨fun k h => (by cases h), kA, hk, comp, hkind⟩, hfind⟩
theorem arrKK {ty : FieldType} {args : Array Value} {s : State} (h : (Cond.arrayOver (.array ty)).before args s = true) : ∃ cA : ClassId, ArrOfT s cA (.array ty) ∧ s.vm.findClass ("[" ++ (FieldType.array ty).toString) = some cA := by
  obtain ⟨comp, cA, kA, hcomp, hk, hkind, hfind⟩ := Cond.arrayOver_specA h
  exact ⟨cA, fun n z => ⟨fun k h => (by cases h), kA, hk, comp, hkind⟩, hfind⟩
set_option maxHeartbeats 4000000 in
set_option maxRecDepth 100000 in
/-- THE LAW, from its entry -/
theorem whole_start {p : Program} {e : Env} {s : State} {m : MethodId} {below : List Frame} {meth : Method} {c : Code} (l : Launch) {b L : Nat} {xs : Nat → Int32} (hL : L ≤ 2048) (C0 : lw_At p s m meth c b L xs) : W p l e room_1 s m #[Value.ref b] below meth c s.heap [] 0 0 (lw_Z below #[Value.ref b] s) (entryFrame m ([Value.ref b] : List Value).toArray 4) := by
  obtain ⟨hx, hb, hr, hml, hown, htT, hX, hbl, hlocks, hgv⟩ := C0
  have hown : s.vm.findClass RL = some m.cls := hown
  have hts : ∀ w ∈ wsL_law, w.before #[Value.ref b] s = true := fun w h => htT w (wsL_law_in w h)
  have hN : ∀ w ∈ nwX, va_Nw w s := fun w h => va_Nw.of (nw_onTables (nwX_ok w h)) (htT w (lwi_nwX w h))
  have hNM : ∀ w ∈ nwM, va_Nw w s := fun w h => by cases h
  have hO : va_AOA .long s := by
    have h9 := htT (.arrayOver (.array .long)) (lwi_arr _ (List.mem_of_getElem? (i := 3) rfl))
    unfold va_AOA
    unfold Cond.before Cond.holds at h9 ⊢
    simp only [Cond.value] at h9 ⊢
    exact h9
  have hA : ∀ q : Nat, s.heap.size ≤ q → (fun q : Nat => s.heap.size ≤ q) q := fun _ h => h
  obtain ⟨aI, hI1, hI2⟩ := arrK (htT (.arrayClass .int) (lwi_arr _ (List.mem_of_getElem? (i := 0) rfl)))
  obtain ⟨aJ, hJ1, hJ2⟩ := arrK (htT (.arrayClass .long) (lwi_arr _ (List.mem_of_getElem? (i := 1) rfl)))
  obtain ⟨aZ, hZ1, hZ2⟩ := arrK (htT (.arrayClass .boolean) (lwi_arr _ (List.mem_of_getElem? (i := 2) rfl)))
  obtain ⟨aJJ, hJJ1, hJJ2⟩ := arrKK (htT (.arrayOver (.array .long)) (lwi_arr _ (List.mem_of_getElem? (i := 3) rfl)))
  obtain ⟨c0, iS0, hKn0⟩ := u_known (C := RX0) (T := TX0) (N := 2) (n := 2) hts inlX0 (hts (.instantiable RX0 2) (List.mem_of_getElem? (i := 37) rfl))
  obtain ⟨c1, iS1, hKn1⟩ := u_known (C := RX1) (T := TX1) (N := 9) (n := 9) hts inlX1 (hts (.instantiable RX1 9) (List.mem_of_getElem? (i := 25) rfl))
  obtain ⟨c2, iS2, hKn2⟩ := u_known (C := RX2) (T := TX2) (N := 1) (n := 1) hts inlX2 (hts (.instantiable RX2 1) (List.mem_of_getElem? (i := 33) rfl))
  obtain ⟨c3, iS3, hKn3⟩ := u_known (C := RX3) (T := TX3) (N := 5) (n := 5) hts inlX3 (hts (.instantiable RX3 5) (List.mem_of_getElem? (i := 29) rfl))
  obtain ⟨c4, iS4, hKn4⟩ := u_known (C := RX4) (T := TX4) (N := 4) (n := 4) hts inlX4 (hts (.instantiable RX4 4) (List.mem_of_getElem? (i := 17) rfl))
  obtain ⟨c5, iS5, hKn5⟩ := u_known (C := RX5) (T := TX5) (N := 2) (n := 2) hts inlX5 (hts (.instantiable RX5 2) (List.mem_of_getElem? (i := 21) rfl))
  obtain ⟨c6, iS6, hKn6⟩ := u_known (C := RX6) (T := TX6) (N := 13) (n := 13) hts inlX6 (hts (.instantiable RX6 13) (List.mem_of_getElem? (i := 13) rfl))
  obtain ⟨c7, iS7, hKn7⟩ := u_known (C := RX7) (T := TX7) (N := 7) (n := 7) hts inlX7 (hts (.instantiable RX7 7) (List.mem_of_getElem? (i := 1) rfl))
  obtain ⟨c8, iS8, hKn8⟩ := u_known (C := RX8) (T := TX8) (N := 32) (n := 32) hts inlX8 (hts (.instantiable RX8 32) (List.mem_of_getElem? (i := 4) rfl))
  obtain ⟨D, hKc⟩ : ∃ D : va_G, ∀ (k : Nat) (q : vw_C), vwCl[k]? = some q → u_Kn s q.1 q.2.1 q.2.2 (D.1 k) (D.2 k) := by
    refine ⟨(fun k => match k with | 0 => c0 | 1 => c1 | 2 => c2 | 3 => c3 | 4 => c4 | 5 => c5 | 6 => c6 | 7 => c7 | _ => c8, fun k => match k with | 0 => iS0 | 1 => iS1 | 2 => iS2 | 3 => iS3 | 4 => iS4 | 5 => iS5 | 6 => iS6 | 7 => iS7 | _ => iS8), ?_⟩
    intro k q hq
    match k, hq with
    | 0, hq => cases hq; exact hKn0
    | 1, hq => cases hq; exact hKn1
    | 2, hq => cases hq; exact hKn2
    | 3, hq => cases hq; exact hKn3
    | 4, hq => cases hq; exact hKn4
    | 5, hq => cases hq; exact hKn5
    | 6, hq => cases hq; exact hKn6
    | 7, hq => cases hq; exact hKn7
    | 8, hq => cases hq; exact hKn8
    | k + 9, hq => simp [vwCl] at hq
  obtain ⟨cA, hcA⟩ : ∃ cA : Nat → ClassId, cA = (fun k => match k with | 0 => aI | 1 => aJ | _ => aJJ) := ⟨_, rfl⟩
  obtain ⟨cB, hcB⟩ : ∃ cB : Nat → ClassId, cB = (fun k => match k with | 0 => aI | 1 => aJ | _ => aZ) := ⟨_, rfl⟩
  have hK : va_K D vwCl (tyX cA) s := by
    refine ⟨hKc, fun k q h => ?_⟩
    rw [hcA] at h
    match k, h with
    | 0, h => cases h; exact ⟨hI1, hI2⟩
    | 1, h => cases h; exact ⟨hJ1, hJ2⟩
    | 2, h => cases h; exact ⟨hJJ1, hJJ2⟩
    | k + 3, h => simp at h
  have hKM : va_K D vwCl (tyM cB) s := by
    refine ⟨hKc, fun k q h => ?_⟩
    rw [hcB] at h
    match k, h with
    | 0, h => cases h; exact ⟨hI1, hI2⟩
    | 1, h => cases h; exact ⟨hJ1, hJ2⟩
    | 2, h => cases h; exact ⟨hZ1, hZ2⟩
    | k + 3, h => simp at h
  clear hcA hcB
  have C : LCx p s m c b L xs D cA cB := ⟨hx, hb, hml, hown, hts, hN, hK, hKM, hX, hbl, hL⟩
  have hS : va_S (fun q : Nat => s.heap.size ≤ q) s.heap s.heap [] := va_S.rf
  have hP : va_P D vwCl [] s.heap := fun k q h => by simp at h
  have hD : va_D (fun q : Nat => s.heap.size ≤ q) [] := ⟨fun i j p q h => by simp at h, fun k q h => by simp at h⟩
  have hl := lv_entry ([.ref b]) (n := 4) (Nat.le_of_ble_eq_true rfl)
  rw [lg_entry_eq]
  generalize (lg_sl ([.ref b]) ++ List.replicate (4 - (lg_sl ([.ref b])).length) Slot.unset).toArray = ls at hl ⊢
  have hl : lv_has ls 4 [(0, .ref b)] := hl
  refine va_newF (ci := 7) (fs := [.null, .null, .null, .null, .null, .null, .null]) (C := RX7) (T := TX7) (N := 7) hx hb hts inlX7 tyX7 tyX7_ok hown (hts (.classLink RL 7 RX7) (List.mem_of_getElem? (i := 0) rfl)) (hts (.instantiable RX7 7) (List.mem_of_getElem? (i := 1) rfl)) (hts (.initialized RX7) (List.mem_of_getElem? (i := 2) rfl)) hK hP hD hS hA rfl (fun j hj => by rcases (show j = 0 ∨ j = 1 ∨ j = 2 ∨ j = 3 ∨ j = 4 ∨ j = 5 ∨ j = 6 by omega) with rfl | rfl | rfl | rfl | rfl | rfl | rfl <;> rfl) (by decide +kernel) (by decide +kernel) dL_law_0 (fun q0 H hP hD hS => ?_)
  refine W.widen (k := 1) (n := 7) (by omega) (by omega) ?_
  refine lv_dup hx hb dL_law_3 rfl ?_
  refine n_callv (va_runI (As := []) (rest := [.ref q0]) ⟨hx, hb, hml, hown, hts⟩ (mtX7_init l D cA (fun q : Nat => s.heap.size ≤ q) q0 (fun _ => 0) (fun _ => false) (fun _ => 0)) (cwI 0 hts gL_law_X7_init rfl rfl rfl (hts (.initialized RX7) (List.mem_of_getElem? (i := 2) rfl)) (hts (.methodLink RL 9 yX7_init) (List.mem_of_getElem? (i := 6) rfl)) (hts (.instanceMethod yX7_init) (List.mem_of_getElem? (i := 7) rfl)) rfl (by decide +kernel) ⟨Nat.le_of_ble_eq_true rfl, Nat.le_of_ble_eq_true rfl⟩) ⟨stN_blind nwX_ok, stN_pass hA hS hN hO hK hP hD nwX_ok⟩ rfl rfl hl.1 rfl (lv_room (Nat.le_of_ble_eq_true rfl)) dL_law_4 ⟨by decide +kernel, by decide +kernel⟩) hS (fun u H locs hq hP hD hS => ?_)
  obtain ⟨ad, σ⟩ := u
  obtain ⟨h0, hσ⟩ := hq
  have h0 : ad 0 = q0 := h0
  have hσ : XI σ (gNew 2 0 (fun _ => 0) (fun _ => false) (fun _ => 0)) := hσ
  have hP : va_P D vwCl (wX ad cA σ) H := hP
  have hD : va_D (fun q : Nat => s.heap.size ≤ q) (wX ad cA σ) := hD
  refine W.widen (k := 30) (n := 1962) (by omega) (by omega) ?_
  refine lv_astore_n (lv' := [(1, .ref q0), (0, .ref b)]) hx hb dL_law_7 rfl hl (by decide) rfl (fun ls hl => ?_)
  refine va_newF (ci := 8) (fs := [.int 0, .int 0, .null, .null, .null, .null, .null, .int 0, .null, .null, .int 0, .int 0, .int 0, .null, .null, .null, .long 0, .long 0, .int 0, .long 0, .long 0, .null, .null, .null, .null, .null, .null, .null, .int 0, .int 0, .null, .null]) (C := RX8) (T := TX8) (N := 32) hx hb hts inlX8 tyX8 tyX8_ok hown (hts (.classLink RL 10 RX8) (List.mem_of_getElem? (i := 3) rfl)) (hts (.instantiable RX8 32) (List.mem_of_getElem? (i := 4) rfl)) (hts (.initialized RX8) (List.mem_of_getElem? (i := 5) rfl)) hKM hP hD hS hA rfl (fun j hj => by rcases (show j = 0 ∨ j = 1 ∨ j = 2 ∨ j = 3 ∨ j = 4 ∨ j = 5 ∨ j = 6 ∨ j = 7 ∨ j = 8 ∨ j = 9 ∨ j = 10 ∨ j = 11 ∨ j = 12 ∨ j = 13 ∨ j = 14 ∨ j = 15 ∨ j = 16 ∨ j = 17 ∨ j = 18 ∨ j = 19 ∨ j = 20 ∨ j = 21 ∨ j = 22 ∨ j = 23 ∨ j = 24 ∨ j = 25 ∨ j = 26 ∨ j = 27 ∨ j = 28 ∨ j = 29 ∨ j = 30 ∨ j = 31 by omega) with rfl | rfl | rfl | rfl | rfl | rfl | rfl | rfl | rfl | rfl | rfl | rfl | rfl | rfl | rfl | rfl | rfl | rfl | rfl | rfl | rfl | rfl | rfl | rfl | rfl | rfl | rfl | rfl | rfl | rfl | rfl | rfl <;> rfl) (by decide +kernel) (by decide +kernel) dL_law_8 (fun q1 H hP hD hS => ?_)
  refine W.widen (k := 31) (n := 1994) (by omega) (by omega) ?_
  refine lv_dup hx hb dL_law_11 rfl ?_
  have hP : va_P D vwCl ([(q1, .inr (8, [.int 0, .int 0, .null, .null, .null, .null, .null, .int 0, .null, .null, .int 0, .int 0, .int 0, .null, .null, .null, .long 0, .long 0, .int 0, .long 0, .long 0, .null, .null, .null, .null, .null, .null, .null, .int 0, .int 0, .null, .null]))] ++ wX ad cA σ) H := hP
  have hD : va_D (fun q : Nat => s.heap.size ≤ q) ([(q1, .inr (8, [.int 0, .int 0, .null, .null, .null, .null, .null, .int 0, .null, .null, .int 0, .int 0, .int 0, .null, .null, .null, .long 0, .long 0, .int 0, .long 0, .long 0, .null, .null, .null, .null, .null, .null, .null, .int 0, .int 0, .null, .null]))] ++ wX ad cA σ) := hD
  refine l_calln (w := [(q1, .inr (8, [.int 0, .int 0, .null, .null, .null, .null, .null, .int 0, .null, .null, .int 0, .int 0, .int 0, .null, .null, .null, .long 0, .long 0, .int 0, .long 0, .long 0, .null, .null, .null, .null, .null, .null, .null, .int 0, .int 0, .null, .null]))]) (va_runI (As := []) (rest := [.ref q1]) ⟨hx, hb, hml, hown, hts⟩ (mtX8_init l D cB (va_A [(q1, .inr (8, [.int 0, .int 0, .null, .null, .null, .null, .null, .int 0, .null, .null, .int 0, .int 0, .int 0, .null, .null, .null, .long 0, .long 0, .int 0, .long 0, .long 0, .null, .null, .null, .null, .null, .null, .null, .int 0, .int 0, .null, .null]))] H.size) q1 (fun _ => 0) (fun _ => 0)) (cwI 0 hts gL_law_X8_init rfl rfl rfl (hts (.initialized RX8) (List.mem_of_getElem? (i := 5) rfl)) (hts (.methodLink RL 12 yX8_init) (List.mem_of_getElem? (i := 131) rfl)) (hts (.instanceMethod yX8_init) (List.mem_of_getElem? (i := 132) rfl)) rfl (by decide +kernel) ⟨Nat.le_of_ble_eq_true rfl, Nat.le_of_ble_eq_true rfl⟩) ⟨stN_blind nwM_ok, stN_passA hNM hO hKM hP hD nwM_ok⟩ rfl rfl hl.1 rfl (lv_room (Nat.le_of_ble_eq_true rfl)) dL_law_12 ⟨by decide +kernel, by decide +kernel⟩) hS hA hP hD (fun u H locs hq hP hD hS => ?_)
  obtain ⟨bd, τ⟩ := u
  obtain ⟨h1, hτ⟩ := hq
  have h1 : bd 0 = q1 := h1
  have hτ : MI τ (gNew 2 0 (fun _ => 0) (fun _ => false) (fun _ => 0)) := hτ
  have hP : va_P D vwCl (wM bd cB τ ++ wX ad cA σ) H := hP
  have hD : va_D (fun q : Nat => s.heap.size ≤ q) (wM bd cB τ ++ wX ad cA σ) := hD
  refine W.widen (k := 50) (n := 6582) (by omega) (by omega) ?_
  refine lv_astore_n (lv' := [(2, .ref q1), (1, .ref q0), (0, .ref b)]) hx hb dL_law_15 rfl hl (by decide) rfl (fun ls hl => ?_)
  refine lv_iconst (v := 0) hx hb dL_law_16 (by decide) ?_
  refine lv_istore_n (lv' := [(3, .int 0), (2, .ref q1), (1, .ref q0), (0, .ref b)]) hx hb dL_law_17 rfl hl (by decide) rfl (fun ls hl => ?_)
  rw [← h0, ← h1] at hl
  exact lloop C hr hlocks (L + 1) 0 (by omega) (by omega) _ σ τ H locs ls hσ hτ hP.turn hD.turn hS (lv_sub hl [3, 2, 1, 0] rfl)
