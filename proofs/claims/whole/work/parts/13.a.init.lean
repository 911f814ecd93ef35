/-! constructors -/
theorem va_AOA.moved {ty : FieldType} {u U : State} (hvm : u.vm.Alike U.vm) (h : va_AOA ty u) : va_AOA ty U := by
  have h2 : (Cond.arrayOver (.array ty)).before #[] (u.setVm U.vm) = true := (Cond.arrayOver_setVmC (args := #[]) (s := u) hvm (.array ty)).trans h
  unfold va_AOA
  unfold Cond.before Cond.holds at h2 ⊢
  simp only [Cond.value] at h2 ⊢
  exact h2
/-- what a constructor finds: an explicit world -/
def stN (D : va_G) (tys : List (ClassId × FieldType)) (nw : List Cond) (w : va_W) (A : Nat → Prop) (U : State) : Prop :=
  (∀ q, U.heap.size ≤ q → A q) ∧ (∀ w ∈ nw, va_Nw w U) ∧ va_AOA .long U ∧ va_P D vwCl w U.heap ∧ va_K D vwCl tys U ∧ va_D A w
theorem stN_blind {D : va_G} {tys : List (ClassId × FieldType)} {nw : List Cond} {w : va_W} {A : Nat → Prop} {av : List Value} (hn : nwOK nw) : FrameBlind (va_Pc av (stN D tys nw w A)) := by
  intro a U g mk h
  obtain ⟨h0, h1, h2, h6, h3, h4, h5⟩ := h
  exact ⟨h0, h1, fun w hw => va_Nw.same (u := U) (U := U.calling g mk a) (nw_onTables (hn w hw)) rfl (h2 w hw), va_AOA.moved (u := U) (U := U.calling g mk a) (Vm.Alike.refl U.vm) h6, h3, va_K.moved (u := U) (U := U.calling g mk a) (Vm.Alike.refl U.vm) h4, h5⟩
theorem stN_pass {D : va_G} {tys : List (ClassId × FieldType)} {nw : List Cond} {w : va_W} {A : Nat → Prop} {s : State} {H : Heap} {locs : List Loc} {av : List Value} (hA : ∀ q, s.heap.size ≤ q → A q) (hS : va_S A s.heap H locs) (hN : ∀ w ∈ nw, va_Nw w s) (hO : va_AOA .long s) (hK : va_K D vwCl tys s) (hP : va_P D vwCl w H) (hD : va_D A w) (hn : nwOK nw) :
    ∀ U : State, U.heap = H → s.WarmedH U.vm → va_Pc av (stN D tys nw w A) av.toArray U := fun U hU hW =>
  ⟨rfl, fun q hq => hA q (Nat.le_trans hS.1 (by rw [← hU]; exact hq)), fun w hw => nw_warm hW (hn w hw) (hN w hw), hO.moved hW.alike, by rw [hU]; exact hP, va_K.moved hW.alike hK, hD⟩
theorem ha_i {N : Nat} : ∀ cA : ClassId, vp_cell cA (N, .inl (fun _ => (0 : Int32))) = arrV cA N (fun _ => defaultValue .int) := fun _ => rfl
theorem ha_z {N : Nat} : ∀ cA : ClassId, vp_cell cA (N, .inl (fun _ => (0 : Int32))) = arrV cA N (fun _ => defaultValue .boolean) := fun _ => rfl
theorem ha_l {N : Nat} : ∀ cA : ClassId, vp_cell cA (N, .inr (.inl (fun _ => (0 : Int64)))) = arrV cA N (fun _ => defaultValue .long) := fun _ => rfl
theorem hz_l {N : Nat} : ∀ c : ClassId, Jvm.Free.Multi.innerC c N (defaultValue .long) = vp_cell c (N, .inr (.inl (fun _ => (0 : Int64)))) := fun c => by
  rw [ha_l]
  exact arrV_new c N _
section WN
variable {p : Program} {l : Launch} {e : Env} {R : Room} {s : State} {m : MethodId} {args : Array Value} {below : List Frame} {meth : Method} {c : Code} {H : Heap} {locs : List Loc} {cells slots : Nat} {Q : State → Prop}
variable {cc : ByteArray} {pc : Nat} {ls : Array Slot} {rest st0 : List Value} {a : Array Value} {D : va_G} {A : Nat → Prop} {tys : List (ClassId × FieldType)} {ws : va_W} {H0 : Heap} {cl : List vw_C}
theorem va_newaT (hexec : p.tables.exec = Jvm.exec) (hb : c.code = cc) {atype : ArrayType} (harr : (Cond.arrayClass (newarray.typeOf atype)).before args s = true) {ty : FieldType} (hty : newarray.typeOf atype = ty) (hK : va_K D cl tys s) (hP : va_P D cl ws H) (hD : va_D A ws) (hS : va_S A H0 H locs) (hA : ∀ q, H0.size ≤ q → A q) (t0 : Nat) {cA : ClassId} (ht : tys[t0]? = some (cA, ty))
    {n : Int32} {N' : Nat} {a0 : vp_A} (ha : ∀ cA : ClassId, vp_cell cA a0 = arrV cA N' (fun _ => defaultValue ty)) (hn : ¬ n < 0) (hN : n.toNatClampNeg = N') (hbytes : N' * componentBytes ty ≤ 536870912) (hcells : cells + 1 ≤ R.cells) (hslots : slots + N' ≤ R.slots) (hdg : decode cc pc = .ok (.newarray atype, 2))
    (kk : ∀ (q : Nat) (H1 : Heap), va_P D cl ((q, .inl (cA, a0)) :: ws) H1 → va_D A ((q, .inl (cA, a0)) :: ws) → va_S A H0 H1 locs →
      W p l e R s m args below meth c H1 locs (cells + 1) (slots + N') Q (F0 m (pc + 2) ls (.ref q :: rest))) : W p l e R s m args below meth c H locs cells slots Q (F0 m pc ls (.int n :: rest)) := by
  refine va_newa hexec hb harr hty hK hP hD hS hA ha hn hN hbytes hcells hslots hdg (fun q cA' H1 hK' hP hD hS => ?_)
  have e9 : cA' = cA := by
    have h1 := (hK'.2 tys.length (cA', ty) (by simp)).2
    have h2 := (hK.2 t0 _ ht).2
    subst hty
    cases atype <;> exact Option.some.inj (h1.symm.trans h2)
  subst e9
  exact kk q H1 (va_P.swap (a := []) hP) (va_D.swap (a := []) hD) hS
theorem va_newF {c0 : Code} (hexec : p.tables.exec = Jvm.exec) (hb : c0.code = cc) {own C : String} {T : u_T} {N ci index : Nat} {Ts : List Cond} (hts : ∀ w ∈ Ts, w.before args s = true) (hin : ∀ w ∈ u_ws C T N, w ∈ Ts) (ty : Nat → FieldType) (hty : ∀ k, k < N → parseFieldDescriptor (T k).2.2.1 = some (ty k)) (hown : s.vm.findClass own = some m.cls) (hcl : (Cond.classLink own index C).before args s = true) (hinst : (Cond.instantiable C N).before args s = true) (hini : (Cond.initialized C).before args s = true)
    (hK : va_K D cl tys s) (hP : va_P D cl ws H) (hD : va_D A ws) (hS : va_S A H0 H locs) (hA : ∀ q, H0.size ≤ q → A q) (hc : cl[ci]? = some (C, T, N)) {fs : List Value} (hfs : ∀ j, j < N → defaultValue (ty j) = vp_V fs j) (hcells : cells + 1 ≤ R.cells) (hslots : slots + N ≤ R.slots) (hdg : decode cc pc = .ok (.new index, 3))
    (kk : ∀ (q : Nat) (H1 : Heap), va_P D cl ((q, .inr (ci, fs)) :: ws) H1 → va_D A ((q, .inr (ci, fs)) :: ws) → va_S A H0 H1 locs →
      W p l e R s m args below meth c0 H1 locs (cells + 1) (slots + N) Q (F0 m (pc + 3) ls (.ref q :: rest))) : W p l e R s m args below meth c0 H locs cells slots Q (F0 m pc ls rest) :=
  va_new hexec hb hts hin ty hty hown hcl hinst hini hK hP hD hS hA hc hfs hcells hslots hdg (fun q H1 hP hD hS => kk q H1 (va_P.swap (a := []) hP) (va_D.swap (a := []) hD) hS)
theorem n_callv {S : Type} {post : S → Prop} {wd : S → va_W} {mc ms : Nat} (hr : va_Run p l e R s m args below meth c H locs cells slots mc ms (F0 m pc ls st0) rest (va_Qv post (fun u t => va_P D vwCl (wd u) t.heap ∧ va_D A (wd u)) A a) A) (hS : va_S A s.heap H locs)
    (kk : ∀ (u : S) (H1 : Heap) (locs1 : List Loc), post u → va_P D vwCl (wd u) H1 → va_D A (wd u) → va_S A s.heap H1 locs1 → W p l e R s m args below meth c H1 locs1 (cells + mc) (slots + ms) Q (F0 m (pc + 3) ls rest)) : W p l e R s m args below meth c H locs cells slots Q (F0 m pc ls st0) :=
  va_callv hr hS (fun _ _ h => h) (fun _ h => h) (fun u t H1 locs1 ht hvm hw hB hz1 hk1 hS => kk u H1 locs1 hw (by rw [← ht]; exact hB.1) hB.2 hS)
end WN
theorem mna_f (r : Nat → Nat) : (fun i : Nat => if i < 3 then some (r i) else none) = (fun i => if i = 0 then some (r 0) else if i = 1 then some (r 1) else if i = 2 then some (r 2) else none) := by
  funext i
  by_cases h0 : i = 0
  · subst h0
    rfl
  · by_cases h1 : i = 1
    · subst h1
      rfl
    · by_cases h2 : i = 2
      · subst h2
        rfl
      · rw [if_neg h0, if_neg h1, if_neg h2, if_neg (by omega)]
theorem mna3 {X : va_W} {r : Nat → Nat} {f : Nat → va_E} {e : va_E} {q : Nat} {c2 : ClassId} : (X ++ [(q, (.inl (c2, 3, .inr (.inr (.inr (.inr (fun i => if i < 3 then some (r i) else none))))) : va_E))]) ++ va_pl ([] ++ (List.range 3).map r) (vr_up f ((List.range 3).map r) e) = X ++ [(q, .inl (c2, 3, .inr (.inr (.inr (.inr (fun i => if i = 0 then some (r 0) else if i = 1 then some (r 1) else if i = 2 then some (r 2) else none)))))), (r 0, e), (r 1, e), (r 2, e)] := by
  rw [mna_f, List.append_assoc]
  congr 1
  show [_, (r 0, vr_up f [r 0, r 1, r 2] e (r 0)), (r 1, vr_up f [r 0, r 1, r 2] e (r 1)), (r 2, vr_up f [r 0, r 1, r 2] e (r 2))] = _
  rw [vr_up_in (by simp), vr_up_in (by simp), vr_up_in (by simp)]
def s0X : Sto := sJ (fun _ _ => 0, fun _ _ => 0) 29 1 1
def s0M : Sto := sJ (sI (sI (sI (sI (fun _ _ => 0, fun _ _ => 0) 0 0 2) 0 10 1) 0 11 1) 0 12 2) 0 17 1
/-! ArcGuesser$Board -/
set_option maxHeartbeats 4000000 in
set_option maxRecDepth 100000 in
theorem mtX0_init (l : Launch) (D : va_G) (cA : Nat → ClassId) (A : Nat → Prop) (wr : va_W) (h0 : Nat) : Met l yX0_init wsX0_init ({ frames := 1, cells := 0, slots := 0, locals := 20 }) (va_Pc [.ref h0] (stN D (tyX cA) nwX ((h0, .inr (0, [.long 0, .long 0])) :: wr) A)) (va_Qv (fun _ : Nat → Nat => True) (fun u t => va_P D vwCl ((h0, .inr (0, [.long 0, .long (1 : Int64)])) :: wr) t.heap ∧ va_D A ((h0, .inr (0, [.long 0, .long (1 : Int64)])) :: wr)) A) 0 0 A := by
  refine Met.ofW (cc := cX0_init) (maxL := 1) (ret := none) (by decide) rfl ?_
  intro p e s m args below meth c s₁ B hml hv
  obtain ⟨rfl, hA, hN, hO, hP, hK, hD⟩ := hv
  have hx := B.exec
  have hb := B.bytes
  have hr := B.returns
  have hts := atoms_spec (ws := wsX0_init) B.pre
  have hown : s.vm.findClass RX0 = some m.cls := findClass_of_methodNamed B.named
  have hlocks := B.notSynchronized
  have hin : meth.name = "<init>" := (name_of_methodNamed B.named B.method).1
  have hiX0 : ∀ w ∈ wsX00, w ∈ wsX0_init := by decide +kernel
  have hS : va_S A s.heap s.heap [] := va_S.rf
  have hP := hP
  have hl := lv_entry ([.ref h0]) (n := 1) (Nat.le_of_ble_eq_true rfl)
  rw [lg_entry_eq]
  generalize (lg_sl ([.ref h0]) ++ List.replicate (1 - (lg_sl ([.ref h0])).length) Slot.unset).toArray = ls at hl ⊢
  have hl : lv_has ls 1 [(0, .ref h0)] := hl
  refine lv_aload_n hx hb dX0_init_0 rfl (lv_at hl 0 rfl) ?_
  refine W.objInit hx hb hown (hts (.methodLink RX0 1 objectInit) (List.mem_of_getElem? (i := 1) rfl)) (hts (.instanceMethod objectInit) (List.mem_of_getElem? (i := 2) rfl)) (hts (.code objectInit ⟨#[0xb1]⟩ 1 none) (List.mem_of_getElem? (i := 3) rfl)) rfl (by rw [hml]; exact hl.1) rfl dX0_init_1 (Nat.le_of_ble_eq_true rfl) (Nat.le_of_ble_eq_true rfl) ?_
  refine W.eq (g2 := F0 m 4 ls []) rfl ?_
  refine lv_aload_n hx hb dX0_init_4 rfl (lv_at hl 0 rfl) ?_
  refine lv_lconst (v := (1 : Int64)) hx hb dX0_init_5 (by decide) ?_
  refine va_put (D := D) (ci := 0) (v := .long (1 : Int64)) (ty := .long) (C := RX0) (T := TX0) (N := 2) hx hb hts hiX0 tyX0 tyX0_ok nmX0 hown hK hP hD hS 0 rfl rfl 1 (by decide) (hts (.fieldLink RX0 7 "ArcGuesser$Board" "below" "J") (List.mem_of_getElem? (i := 4) rfl)) (fun _ h9 => h9) rfl (by decide +kernel) rfl rfl (Nat.le_of_ble_eq_true rfl) dX0_init_6 (fun H locs hP hD hS => ?_)
  have hP : va_P D vwCl ((h0, .inr (0, [.long 0, .long (1 : Int64)])) :: wr) H := hP
  have hD : va_D A ((h0, .inr (0, [.long 0, .long (1 : Int64)])) :: wr) := hD
  exact W.vret hx hb hr (fun t ht hW => ⟨⟨(fun _ => 0), rfl, trivial, by rw [ht]; exact hP, hD⟩, hS.F ht⟩) hS.2.2 dX0_init_9
/-! ArcGuesser$Candidates -/
set_option maxHeartbeats 4000000 in
set_option maxRecDepth 100000 in
theorem mtX1_init (l : Launch) (D : va_G) (cA : Nat → ClassId) (A : Nat → Prop) (wr : va_W) (h0 h1 : Nat) : Met l yX1_init wsX1_init ({ frames := 1, cells := 5, slots := 660, locals := 20 }) (va_Pc [.ref h0, .ref h1] (stN D (tyX cA) nwX ((h0, .inr (1, [.null, .int 0, .int 0, .int 0, .null, .null, .null, .null, .null])) :: wr) A)) (va_Qv (fun _ : Nat → Nat => True) (fun u t => va_P D vwCl (((u 4), .inl (cA 0, 132, .inl (fun _ => (0 : Int32)))) :: ((u 3), .inl (cA 0, 132, .inl (fun _ => (0 : Int32)))) :: ((u 2), .inl (cA 0, 132, .inl (fun _ => (0 : Int32)))) :: ((u 1), .inl (cA 1, 132, .inr (.inl (fun _ => (0 : Int64))))) :: ((u 0), .inl (cA 0, 132, .inl (fun _ => (0 : Int32)))) :: (h0, .inr (1, [.ref h1, .int 0, .int 0, .int 0, .ref (u 0), .ref (u 1), .ref (u 2), .ref (u 3), .ref (u 4)])) :: wr) t.heap ∧ va_D A (((u 4), .inl (cA 0, 132, .inl (fun _ => (0 : Int32)))) :: ((u 3), .inl (cA 0, 132, .inl (fun _ => (0 : Int32)))) :: ((u 2), .inl (cA 0, 132, .inl (fun _ => (0 : Int32)))) :: ((u 1), .inl (cA 1, 132, .inr (.inl (fun _ => (0 : Int64))))) :: ((u 0), .inl (cA 0, 132, .inl (fun _ => (0 : Int32)))) :: (h0, .inr (1, [.ref h1, .int 0, .int 0, .int 0, .ref (u 0), .ref (u 1), .ref (u 2), .ref (u 3), .ref (u 4)])) :: wr)) A) 5 660 A := by
  refine Met.ofW (cc := cX1_init) (maxL := 2) (ret := none) (by decide) rfl ?_
  intro p e s m args below meth c s₁ B hml hv
  obtain ⟨rfl, hA, hN, hO, hP, hK, hD⟩ := hv
  have hx := B.exec
  have hb := B.bytes
  have hr := B.returns
  have hts := atoms_spec (ws := wsX1_init) B.pre
  have hown : s.vm.findClass RX1 = some m.cls := findClass_of_methodNamed B.named
  have hlocks := B.notSynchronized
  have hin : meth.name = "<init>" := (name_of_methodNamed B.named B.method).1
  have hiX1 : ∀ w ∈ wsX10, w ∈ wsX1_init := by decide +kernel
  have hS : va_S A s.heap s.heap [] := va_S.rf
  have hP := hP
  have hl := lv_entry ([.ref h0, .ref h1]) (n := 2) (Nat.le_of_ble_eq_true rfl)
  rw [lg_entry_eq]
  generalize (lg_sl ([.ref h0, .ref h1]) ++ List.replicate (2 - (lg_sl ([.ref h0, .ref h1])).length) Slot.unset).toArray = ls at hl ⊢
  have hl : lv_has ls 2 [(0, .ref h0), (1, .ref h1)] := hl
  refine lv_aload_n hx hb dX1_init_0 rfl (lv_at hl 0 rfl) ?_
  refine W.objInit hx hb hown (hts (.methodLink RX1 3 objectInit) (List.mem_of_getElem? (i := 1) rfl)) (hts (.instanceMethod objectInit) (List.mem_of_getElem? (i := 2) rfl)) (hts (.code objectInit ⟨#[0xb1]⟩ 1 none) (List.mem_of_getElem? (i := 3) rfl)) rfl (by rw [hml]; exact hl.1) rfl dX1_init_1 (Nat.le_of_ble_eq_true rfl) (Nat.le_of_ble_eq_true rfl) ?_
  refine W.eq (g2 := F0 m 4 ls []) rfl ?_
  refine lv_aload_n hx hb dX1_init_4 rfl (lv_at hl 0 rfl) ?_
  refine lv_sipush (v := (132 : Int32)) hx hb dX1_init_5 (by decide) ?_
  refine va_newaT (atype := .int) (ty := .int) (cA := cA 0) (N' := 132) (n := (132 : Int32)) (a0 := (132, .inl (fun _ => (0 : Int32)))) hx hb (hts (.arrayClass .int) (List.mem_of_getElem? (i := 4) rfl)) rfl hK hP hD hS hA 0 rfl ha_i (by decide +kernel) (by decide +kernel) (by decide +kernel) (by decide +kernel) (by decide +kernel) dX1_init_8 (fun q8 H hP hD hS => ?_)
  have hP : va_P D vwCl ((q8, .inl (cA 0, 132, .inl (fun _ => (0 : Int32)))) :: (h0, .inr (1, [.null, .int 0, .int 0, .int 0, .null, .null, .null, .null, .null])) :: wr) H := hP
  have hD : va_D A ((q8, .inl (cA 0, 132, .inl (fun _ => (0 : Int32)))) :: (h0, .inr (1, [.null, .int 0, .int 0, .int 0, .null, .null, .null, .null, .null])) :: wr) := hD
  refine W.widen (k := 1) (n := 132) (by omega) (by omega) ?_
  refine va_putF (D := D) (ci := 1) (v := .ref q8) (ty := .array .int) (C := RX1) (T := TX1) (N := 9) hx hb hts hiX1 tyX1 tyX1_ok nmX1 hown hK hP hD hS 1 rfl rfl 4 (by decide) (hts (.fieldLink RX1 9 "ArcGuesser$Candidates" "pairs" "[I") (List.mem_of_getElem? (i := 5) rfl)) (fun _ h9 => h9) rfl hin rfl (by decide +kernel) rfl rfl (Nat.le_of_ble_eq_true rfl) dX1_init_10 (fun H locs hP hD hS => ?_)
  have hP : va_P D vwCl ((q8, .inl (cA 0, 132, .inl (fun _ => (0 : Int32)))) :: (h0, .inr (1, [.null, .int 0, .int 0, .int 0, .ref q8, .null, .null, .null, .null])) :: wr) H := hP
  have hD : va_D A ((q8, .inl (cA 0, 132, .inl (fun _ => (0 : Int32)))) :: (h0, .inr (1, [.null, .int 0, .int 0, .int 0, .ref q8, .null, .null, .null, .null])) :: wr) := hD
  refine lv_aload_n hx hb dX1_init_13 rfl (lv_at hl 0 rfl) ?_
  refine lv_sipush (v := (132 : Int32)) hx hb dX1_init_14 (by decide) ?_
  refine va_newaT (atype := .long) (ty := .long) (cA := cA 1) (N' := 132) (n := (132 : Int32)) (a0 := (132, .inr (.inl (fun _ => (0 : Int64))))) hx hb (hts (.arrayClass .long) (List.mem_of_getElem? (i := 6) rfl)) rfl hK hP hD hS hA 1 rfl ha_l (by decide +kernel) (by decide +kernel) (by decide +kernel) (by decide +kernel) (by decide +kernel) dX1_init_17 (fun q17 H hP hD hS => ?_)
  have hP : va_P D vwCl ((q17, .inl (cA 1, 132, .inr (.inl (fun _ => (0 : Int64))))) :: (q8, .inl (cA 0, 132, .inl (fun _ => (0 : Int32)))) :: (h0, .inr (1, [.null, .int 0, .int 0, .int 0, .ref q8, .null, .null, .null, .null])) :: wr) H := hP
  have hD : va_D A ((q17, .inl (cA 1, 132, .inr (.inl (fun _ => (0 : Int64))))) :: (q8, .inl (cA 0, 132, .inl (fun _ => (0 : Int32)))) :: (h0, .inr (1, [.null, .int 0, .int 0, .int 0, .ref q8, .null, .null, .null, .null])) :: wr) := hD
  refine W.widen (k := 2) (n := 264) (by omega) (by omega) ?_
  refine va_putF (D := D) (ci := 1) (v := .ref q17) (ty := .array .long) (C := RX1) (T := TX1) (N := 9) hx hb hts hiX1 tyX1 tyX1_ok nmX1 hown hK hP hD hS 2 rfl rfl 5 (by decide) (hts (.fieldLink RX1 15 "ArcGuesser$Candidates" "mixes" "[J") (List.mem_of_getElem? (i := 7) rfl)) (fun _ h9 => h9) rfl hin rfl (by decide +kernel) rfl rfl (Nat.le_of_ble_eq_true rfl) dX1_init_19 (fun H locs hP hD hS => ?_)
  have hP : va_P D vwCl ((q17, .inl (cA 1, 132, .inr (.inl (fun _ => (0 : Int64))))) :: (q8, .inl (cA 0, 132, .inl (fun _ => (0 : Int32)))) :: (h0, .inr (1, [.null, .int 0, .int 0, .int 0, .ref q8, .ref q17, .null, .null, .null])) :: wr) H := hP
  have hD : va_D A ((q17, .inl (cA 1, 132, .inr (.inl (fun _ => (0 : Int64))))) :: (q8, .inl (cA 0, 132, .inl (fun _ => (0 : Int32)))) :: (h0, .inr (1, [.null, .int 0, .int 0, .int 0, .ref q8, .ref q17, .null, .null, .null])) :: wr) := hD
  refine lv_aload_n hx hb dX1_init_22 rfl (lv_at hl 0 rfl) ?_
  refine lv_sipush (v := (132 : Int32)) hx hb dX1_init_23 (by decide) ?_
  refine va_newaT (atype := .int) (ty := .int) (cA := cA 0) (N' := 132) (n := (132 : Int32)) (a0 := (132, .inl (fun _ => (0 : Int32)))) hx hb (hts (.arrayClass .int) (List.mem_of_getElem? (i := 4) rfl)) rfl hK hP hD hS hA 0 rfl ha_i (by decide +kernel) (by decide +kernel) (by decide +kernel) (by decide +kernel) (by decide +kernel) dX1_init_26 (fun q26 H hP hD hS => ?_)
  have hP : va_P D vwCl ((q26, .inl (cA 0, 132, .inl (fun _ => (0 : Int32)))) :: (q17, .inl (cA 1, 132, .inr (.inl (fun _ => (0 : Int64))))) :: (q8, .inl (cA 0, 132, .inl (fun _ => (0 : Int32)))) :: (h0, .inr (1, [.null, .int 0, .int 0, .int 0, .ref q8, .ref q17, .null, .null, .null])) :: wr) H := hP
  have hD : va_D A ((q26, .inl (cA 0, 132, .inl (fun _ => (0 : Int32)))) :: (q17, .inl (cA 1, 132, .inr (.inl (fun _ => (0 : Int64))))) :: (q8, .inl (cA 0, 132, .inl (fun _ => (0 : Int32)))) :: (h0, .inr (1, [.null, .int 0, .int 0, .int 0, .ref q8, .ref q17, .null, .null, .null])) :: wr) := hD
  refine W.widen (k := 3) (n := 396) (by omega) (by omega) ?_
  refine va_putF (D := D) (ci := 1) (v := .ref q26) (ty := .array .int) (C := RX1) (T := TX1) (N := 9) hx hb hts hiX1 tyX1 tyX1_ok nmX1 hown hK hP hD hS 3 rfl rfl 6 (by decide) (hts (.fieldLink RX1 19 "ArcGuesser$Candidates" "founds" "[I") (List.mem_of_getElem? (i := 8) rfl)) (fun _ h9 => h9) rfl hin rfl (by decide +kernel) rfl rfl (Nat.le_of_ble_eq_true rfl) dX1_init_28 (fun H locs hP hD hS => ?_)
  have hP : va_P D vwCl ((q26, .inl (cA 0, 132, .inl (fun _ => (0 : Int32)))) :: (q17, .inl (cA 1, 132, .inr (.inl (fun _ => (0 : Int64))))) :: (q8, .inl (cA 0, 132, .inl (fun _ => (0 : Int32)))) :: (h0, .inr (1, [.null, .int 0, .int 0, .int 0, .ref q8, .ref q17, .ref q26, .null, .null])) :: wr) H := hP
  have hD : va_D A ((q26, .inl (cA 0, 132, .inl (fun _ => (0 : Int32)))) :: (q17, .inl (cA 1, 132, .inr (.inl (fun _ => (0 : Int64))))) :: (q8, .inl (cA 0, 132, .inl (fun _ => (0 : Int32)))) :: (h0, .inr (1, [.null, .int 0, .int 0, .int 0, .ref q8, .ref q17, .ref q26, .null, .null])) :: wr) := hD
  refine lv_aload_n hx hb dX1_init_31 rfl (lv_at hl 0 rfl) ?_
  refine lv_sipush (v := (132 : Int32)) hx hb dX1_init_32 (by decide) ?_
  refine va_newaT (atype := .int) (ty := .int) (cA := cA 0) (N' := 132) (n := (132 : Int32)) (a0 := (132, .inl (fun _ => (0 : Int32)))) hx hb (hts (.arrayClass .int) (List.mem_of_getElem? (i := 4) rfl)) rfl hK hP hD hS hA 0 rfl ha_i (by decide +kernel) (by decide +kernel) (by decide +kernel) (by decide +kernel) (by decide +kernel) dX1_init_35 (fun q35 H hP hD hS => ?_)
  have hP : va_P D vwCl ((q35, .inl (cA 0, 132, .inl (fun _ => (0 : Int32)))) :: (q26, .inl (cA 0, 132, .inl (fun _ => (0 : Int32)))) :: (q17, .inl (cA 1, 132, .inr (.inl (fun _ => (0 : Int64))))) :: (q8, .inl (cA 0, 132, .inl (fun _ => (0 : Int32)))) :: (h0, .inr (1, [.null, .int 0, .int 0, .int 0, .ref q8, .ref q17, .ref q26, .null, .null])) :: wr) H := hP
  have hD : va_D A ((q35, .inl (cA 0, 132, .inl (fun _ => (0 : Int32)))) :: (q26, .inl (cA 0, 132, .inl (fun _ => (0 : Int32)))) :: (q17, .inl (cA 1, 132, .inr (.inl (fun _ => (0 : Int64))))) :: (q8, .inl (cA 0, 132, .inl (fun _ => (0 : Int32)))) :: (h0, .inr (1, [.null, .int 0, .int 0, .int 0, .ref q8, .ref q17, .ref q26, .null, .null])) :: wr) := hD
  refine W.widen (k := 4) (n := 528) (by omega) (by omega) ?_
  refine va_putF (D := D) (ci := 1) (v := .ref q35) (ty := .array .int) (C := RX1) (T := TX1) (N := 9) hx hb hts hiX1 tyX1 tyX1_ok nmX1 hown hK hP hD hS 4 rfl rfl 7 (by decide) (hts (.fieldLink RX1 22 "ArcGuesser$Candidates" "empties" "[I") (List.mem_of_getElem? (i := 9) rfl)) (fun _ h9 => h9) rfl hin rfl (by decide +kernel) rfl rfl (Nat.le_of_ble_eq_true rfl) dX1_init_37 (fun H locs hP hD hS => ?_)
  have hP : va_P D vwCl ((q35, .inl (cA 0, 132, .inl (fun _ => (0 : Int32)))) :: (q26, .inl (cA 0, 132, .inl (fun _ => (0 : Int32)))) :: (q17, .inl (cA 1, 132, .inr (.inl (fun _ => (0 : Int64))))) :: (q8, .inl (cA 0, 132, .inl (fun _ => (0 : Int32)))) :: (h0, .inr (1, [.null, .int 0, .int 0, .int 0, .ref q8, .ref q17, .ref q26, .ref q35, .null])) :: wr) H := hP
  have hD : va_D A ((q35, .inl (cA 0, 132, .inl (fun _ => (0 : Int32)))) :: (q26, .inl (cA 0, 132, .inl (fun _ => (0 : Int32)))) :: (q17, .inl (cA 1, 132, .inr (.inl (fun _ => (0 : Int64))))) :: (q8, .inl (cA 0, 132, .inl (fun _ => (0 : Int32)))) :: (h0, .inr (1, [.null, .int 0, .int 0, .int 0, .ref q8, .ref q17, .ref q26, .ref q35, .null])) :: wr) := hD
  refine lv_aload_n hx hb dX1_init_40 rfl (lv_at hl 0 rfl) ?_
  refine lv_sipush (v := (132 : Int32)) hx hb dX1_init_41 (by decide) ?_
  refine va_newaT (atype := .int) (ty := .int) (cA := cA 0) (N' := 132) (n := (132 : Int32)) (a0 := (132, .inl (fun _ => (0 : Int32)))) hx hb (hts (.arrayClass .int) (List.mem_of_getElem? (i := 4) rfl)) rfl hK hP hD hS hA 0 rfl ha_i (by decide +kernel) (by decide +kernel) (by decide +kernel) (by decide +kernel) (by decide +kernel) dX1_init_44 (fun q44 H hP hD hS => ?_)
  have hP : va_P D vwCl ((q44, .inl (cA 0, 132, .inl (fun _ => (0 : Int32)))) :: (q35, .inl (cA 0, 132, .inl (fun _ => (0 : Int32)))) :: (q26, .inl (cA 0, 132, .inl (fun _ => (0 : Int32)))) :: (q17, .inl (cA 1, 132, .inr (.inl (fun _ => (0 : Int64))))) :: (q8, .inl (cA 0, 132, .inl (fun _ => (0 : Int32)))) :: (h0, .inr (1, [.null, .int 0, .int 0, .int 0, .ref q8, .ref q17, .ref q26, .ref q35, .null])) :: wr) H := hP
  have hD : va_D A ((q44, .inl (cA 0, 132, .inl (fun _ => (0 : Int32)))) :: (q35, .inl (cA 0, 132, .inl (fun _ => (0 : Int32)))) :: (q26, .inl (cA 0, 132, .inl (fun _ => (0 : Int32)))) :: (q17, .inl (cA 1, 132, .inr (.inl (fun _ => (0 : Int64))))) :: (q8, .inl (cA 0, 132, .inl (fun _ => (0 : Int32)))) :: (h0, .inr (1, [.null, .int 0, .int 0, .int 0, .ref q8, .ref q17, .ref q26, .ref q35, .null])) :: wr) := hD
  refine W.widen (k := 5) (n := 660) (by omega) (by omega) ?_
  refine va_putF (D := D) (ci := 1) (v := .ref q44) (ty := .array .int) (C := RX1) (T := TX1) (N := 9) hx hb hts hiX1 tyX1 tyX1_ok nmX1 hown hK hP hD hS 5 rfl rfl 8 (by decide) (hts (.fieldLink RX1 25 "ArcGuesser$Candidates" "order" "[I") (List.mem_of_getElem? (i := 10) rfl)) (fun _ h9 => h9) rfl hin rfl (by decide +kernel) rfl rfl (Nat.le_of_ble_eq_true rfl) dX1_init_46 (fun H locs hP hD hS => ?_)
  have hP : va_P D vwCl ((q44, .inl (cA 0, 132, .inl (fun _ => (0 : Int32)))) :: (q35, .inl (cA 0, 132, .inl (fun _ => (0 : Int32)))) :: (q26, .inl (cA 0, 132, .inl (fun _ => (0 : Int32)))) :: (q17, .inl (cA 1, 132, .inr (.inl (fun _ => (0 : Int64))))) :: (q8, .inl (cA 0, 132, .inl (fun _ => (0 : Int32)))) :: (h0, .inr (1, [.null, .int 0, .int 0, .int 0, .ref q8, .ref q17, .ref q26, .ref q35, .ref q44])) :: wr) H := hP
  have hD : va_D A ((q44, .inl (cA 0, 132, .inl (fun _ => (0 : Int32)))) :: (q35, .inl (cA 0, 132, .inl (fun _ => (0 : Int32)))) :: (q26, .inl (cA 0, 132, .inl (fun _ => (0 : Int32)))) :: (q17, .inl (cA 1, 132, .inr (.inl (fun _ => (0 : Int64))))) :: (q8, .inl (cA 0, 132, .inl (fun _ => (0 : Int32)))) :: (h0, .inr (1, [.null, .int 0, .int 0, .int 0, .ref q8, .ref q17, .ref q26, .ref q35, .ref q44])) :: wr) := hD
  refine lv_aload_n hx hb dX1_init_49 rfl (lv_at hl 0 rfl) ?_
  refine lv_aload_n hx hb dX1_init_50 rfl (lv_at hl 1 rfl) ?_
  refine va_putF (D := D) (ci := 1) (v := .ref h1) (ty := .object "ArcGuesser$Net") (C := RX1) (T := TX1) (N := 9) hx hb hts hiX1 tyX1 tyX1_ok nmX1 hown hK hP hD hS 5 rfl rfl 0 (by decide) (hts (.fieldLink RX1 28 "ArcGuesser$Candidates" "net" "LArcGuesser$Net;") (List.mem_of_getElem? (i := 11) rfl)) (fun _ h9 => h9) rfl hin rfl (by decide +kernel) rfl rfl (Nat.le_of_ble_eq_true rfl) dX1_init_51 (fun H locs hP hD hS => ?_)
  have hP : va_P D vwCl ((q44, .inl (cA 0, 132, .inl (fun _ => (0 : Int32)))) :: (q35, .inl (cA 0, 132, .inl (fun _ => (0 : Int32)))) :: (q26, .inl (cA 0, 132, .inl (fun _ => (0 : Int32)))) :: (q17, .inl (cA 1, 132, .inr (.inl (fun _ => (0 : Int64))))) :: (q8, .inl (cA 0, 132, .inl (fun _ => (0 : Int32)))) :: (h0, .inr (1, [.ref h1, .int 0, .int 0, .int 0, .ref q8, .ref q17, .ref q26, .ref q35, .ref q44])) :: wr) H := hP
  have hD : va_D A ((q44, .inl (cA 0, 132, .inl (fun _ => (0 : Int32)))) :: (q35, .inl (cA 0, 132, .inl (fun _ => (0 : Int32)))) :: (q26, .inl (cA 0, 132, .inl (fun _ => (0 : Int32)))) :: (q17, .inl (cA 1, 132, .inr (.inl (fun _ => (0 : Int64))))) :: (q8, .inl (cA 0, 132, .inl (fun _ => (0 : Int32)))) :: (h0, .inr (1, [.ref h1, .int 0, .int 0, .int 0, .ref q8, .ref q17, .ref q26, .ref q35, .ref q44])) :: wr) := hD
  exact W.vret hx hb hr (fun t ht hW => ⟨⟨(fun k => match k with | 0 => q8 | 1 => q17 | 2 => q26 | 3 => q35 | 4 => q44 | _ => 0), rfl, trivial, by rw [ht]; exact hP, hD⟩, hS.F ht⟩) hS.2.2 dX1_init_54
/-! ArcGuesser$Draws -/
set_option maxHeartbeats 4000000 in
set_option maxRecDepth 100000 in
theorem mtX2_init (l : Launch) (D : va_G) (cA : Nat → ClassId) (A : Nat → Prop) (wr : va_W) (h0 : Nat) : Met l yX2_init wsX2_init ({ frames := 1, cells := 0, slots := 0, locals := 20 }) (va_Pc [.ref h0] (stN D (tyX cA) nwX ((h0, .inr (2, [.int 0])) :: wr) A)) (va_Qv (fun _ : Nat → Nat => True) (fun u t => va_P D vwCl ((h0, .inr (2, [.int 0])) :: wr) t.heap ∧ va_D A ((h0, .inr (2, [.int 0])) :: wr)) A) 0 0 A := by
  refine Met.ofW (cc := cX2_init) (maxL := 1) (ret := none) (by decide) rfl ?_
  intro p e s m args below meth c s₁ B hml hv
  obtain ⟨rfl, hA, hN, hO, hP, hK, hD⟩ := hv
  have hx := B.exec
  have hb := B.bytes
  have hr := B.returns
  have hts := atoms_spec (ws := wsX2_init) B.pre
  have hown : s.vm.findClass RX2 = some m.cls := findClass_of_methodNamed B.named
  have hlocks := B.notSynchronized
  have hin : meth.name = "<init>" := (name_of_methodNamed B.named B.method).1
  have hS : va_S A s.heap s.heap [] := va_S.rf
  have hP := hP
  have hl := lv_entry ([.ref h0]) (n := 1) (Nat.le_of_ble_eq_true rfl)
  rw [lg_entry_eq]
  generalize (lg_sl ([.ref h0]) ++ List.replicate (1 - (lg_sl ([.ref h0])).length) Slot.unset).toArray = ls at hl ⊢
  have hl : lv_has ls 1 [(0, .ref h0)] := hl
  refine lv_aload_n hx hb dX2_init_0 rfl (lv_at hl 0 rfl) ?_
  refine W.objInit hx hb hown (hts (.methodLink RX2 1 objectInit) (List.mem_of_getElem? (i := 1) rfl)) (hts (.instanceMethod objectInit) (List.mem_of_getElem? (i := 2) rfl)) (hts (.code objectInit ⟨#[0xb1]⟩ 1 none) (List.mem_of_getElem? (i := 3) rfl)) rfl (by rw [hml]; exact hl.1) rfl dX2_init_1 (Nat.le_of_ble_eq_true rfl) (Nat.le_of_ble_eq_true rfl) ?_
  refine W.eq (g2 := F0 m 4 ls []) rfl ?_
  exact W.vret hx hb hr (fun t ht hW => ⟨⟨(fun _ => 0), rfl, trivial, by rw [ht]; exact hP, hD⟩, hS.F ht⟩) hS.2.2 dX2_init_4
/-! ArcGuesser$Learner -/
set_option maxHeartbeats 4000000 in
set_option maxRecDepth 100000 in
theorem mtX3_init (l : Launch) (D : va_G) (cA : Nat → ClassId) (A : Nat → Prop) (wr : va_W) (h0 : Nat) : Met l yX3_init wsX3_init ({ frames := 1, cells := 7, slots := 408, locals := 20 }) (va_Pc [.ref h0] (stN D (tyX cA) nwX ((h0, .inr (3, [.int 0, .null, .null, .null, .null])) :: wr) A)) (va_Qv (fun _ : Nat → Nat => True) (fun u t => va_P D vwCl (((u 3), .inl (cA 2, 3, .inr (.inr (.inr (.inr (fun i => if i = 0 then some (u 4) else if i = 1 then some (u 5) else if i = 2 then some (u 6) else none)))))) :: ((u 4), .inl (cA 1, 132, .inr (.inl (fun _ => (0 : Int64))))) :: ((u 5), .inl (cA 1, 132, .inr (.inl (fun _ => (0 : Int64))))) :: ((u 6), .inl (cA 1, 132, .inr (.inl (fun _ => (0 : Int64))))) :: ((u 2), .inl (cA 0, 3, .inl (fun _ => (0 : Int32)))) :: ((u 1), .inl (cA 0, 3, .inl (fun _ => (0 : Int32)))) :: ((u 0), .inl (cA 0, 3, .inl (fun _ => (0 : Int32)))) :: (h0, .inr (3, [.int 0, .ref (u 0), .ref (u 1), .ref (u 2), .ref (u 3)])) :: wr) t.heap ∧ va_D A (((u 3), .inl (cA 2, 3, .inr (.inr (.inr (.inr (fun i => if i = 0 then some (u 4) else if i = 1 then some (u 5) else if i = 2 then some (u 6) else none)))))) :: ((u 4), .inl (cA 1, 132, .inr (.inl (fun _ => (0 : Int64))))) :: ((u 5), .inl (cA 1, 132, .inr (.inl (fun _ => (0 : Int64))))) :: ((u 6), .inl (cA 1, 132, .inr (.inl (fun _ => (0 : Int64))))) :: ((u 2), .inl (cA 0, 3, .inl (fun _ => (0 : Int32)))) :: ((u 1), .inl (cA 0, 3, .inl (fun _ => (0 : Int32)))) :: ((u 0), .inl (cA 0, 3, .inl (fun _ => (0 : Int32)))) :: (h0, .inr (3, [.int 0, .ref (u 0), .ref (u 1), .ref (u 2), .ref (u 3)])) :: wr)) A) 7 408 A := by
  refine Met.ofW (cc := cX3_init) (maxL := 1) (ret := none) (by decide) rfl ?_
  intro p e s m args below meth c s₁ B hml hv
  obtain ⟨rfl, hA, hN, hO, hP, hK, hD⟩ := hv
  have hx := B.exec
  have hb := B.bytes
  have hr := B.returns
  have hts := atoms_spec (ws := wsX3_init) B.pre
  have hown : s.vm.findClass RX3 = some m.cls := findClass_of_methodNamed B.named
  have hlocks := B.notSynchronized
  have hin : meth.name = "<init>" := (name_of_methodNamed B.named B.method).1
  have hiX3 : ∀ w ∈ wsX30, w ∈ wsX3_init := by decide +kernel
  have hS : va_S A s.heap s.heap [] := va_S.rf
  have hP := hP
  have hl := lv_entry ([.ref h0]) (n := 1) (Nat.le_of_ble_eq_true rfl)
  rw [lg_entry_eq]
  generalize (lg_sl ([.ref h0]) ++ List.replicate (1 - (lg_sl ([.ref h0])).length) Slot.unset).toArray = ls at hl ⊢
  have hl : lv_has ls 1 [(0, .ref h0)] := hl
  refine lv_aload_n hx hb dX3_init_0 rfl (lv_at hl 0 rfl) ?_
  refine W.objInit hx hb hown (hts (.methodLink RX3 3 objectInit) (List.mem_of_getElem? (i := 1) rfl)) (hts (.instanceMethod objectInit) (List.mem_of_getElem? (i := 2) rfl)) (hts (.code objectInit ⟨#[0xb1]⟩ 1 none) (List.mem_of_getElem? (i := 3) rfl)) rfl (by rw [hml]; exact hl.1) rfl dX3_init_1 (Nat.le_of_ble_eq_true rfl) (Nat.le_of_ble_eq_true rfl) ?_
  refine W.eq (g2 := F0 m 4 ls []) rfl ?_
  refine lv_aload_n hx hb dX3_init_4 rfl (lv_at hl 0 rfl) ?_
  refine lv_iconst (v := (3 : Int32)) hx hb dX3_init_5 (by decide) ?_
  refine va_newaT (atype := .int) (ty := .int) (cA := cA 0) (N' := 3) (n := (3 : Int32)) (a0 := (3, .inl (fun _ => (0 : Int32)))) hx hb (hts (.arrayClass .int) (List.mem_of_getElem? (i := 4) rfl)) rfl hK hP hD hS hA 0 rfl ha_i (by decide +kernel) (by decide +kernel) (by decide +kernel) (by decide +kernel) (by decide +kernel) dX3_init_6 (fun q6 H hP hD hS => ?_)
  have hP : va_P D vwCl ((q6, .inl (cA 0, 3, .inl (fun _ => (0 : Int32)))) :: (h0, .inr (3, [.int 0, .null, .null, .null, .null])) :: wr) H := hP
  have hD : va_D A ((q6, .inl (cA 0, 3, .inl (fun _ => (0 : Int32)))) :: (h0, .inr (3, [.int 0, .null, .null, .null, .null])) :: wr) := hD
  refine W.widen (k := 1) (n := 3) (by omega) (by omega) ?_
  refine va_putF (D := D) (ci := 3) (v := .ref q6) (ty := .array .int) (C := RX3) (T := TX3) (N := 5) hx hb hts hiX3 tyX3 tyX3_ok nmX3 hown hK hP hD hS 1 rfl rfl 1 (by decide) (hts (.fieldLink RX3 9 "ArcGuesser$Learner" "chosen" "[I") (List.mem_of_getElem? (i := 5) rfl)) (fun _ h9 => h9) rfl hin rfl (by decide +kernel) rfl rfl (Nat.le_of_ble_eq_true rfl) dX3_init_8 (fun H locs hP hD hS => ?_)
  have hP : va_P D vwCl ((q6, .inl (cA 0, 3, .inl (fun _ => (0 : Int32)))) :: (h0, .inr (3, [.int 0, .ref q6, .null, .null, .null])) :: wr) H := hP
  have hD : va_D A ((q6, .inl (cA 0, 3, .inl (fun _ => (0 : Int32)))) :: (h0, .inr (3, [.int 0, .ref q6, .null, .null, .null])) :: wr) := hD
  refine lv_aload_n hx hb dX3_init_11 rfl (lv_at hl 0 rfl) ?_
  refine lv_iconst (v := (3 : Int32)) hx hb dX3_init_12 (by decide) ?_
  refine va_newaT (atype := .int) (ty := .int) (cA := cA 0) (N' := 3) (n := (3 : Int32)) (a0 := (3, .inl (fun _ => (0 : Int32)))) hx hb (hts (.arrayClass .int) (List.mem_of_getElem? (i := 4) rfl)) rfl hK hP hD hS hA 0 rfl ha_i (by decide +kernel) (by decide +kernel) (by decide +kernel) (by decide +kernel) (by decide +kernel) dX3_init_13 (fun q13 H hP hD hS => ?_)
  have hP : va_P D vwCl ((q13, .inl (cA 0, 3, .inl (fun _ => (0 : Int32)))) :: (q6, .inl (cA 0, 3, .inl (fun _ => (0 : Int32)))) :: (h0, .inr (3, [.int 0, .ref q6, .null, .null, .null])) :: wr) H := hP
  have hD : va_D A ((q13, .inl (cA 0, 3, .inl (fun _ => (0 : Int32)))) :: (q6, .inl (cA 0, 3, .inl (fun _ => (0 : Int32)))) :: (h0, .inr (3, [.int 0, .ref q6, .null, .null, .null])) :: wr) := hD
  refine W.widen (k := 2) (n := 6) (by omega) (by omega) ?_
  refine va_putF (D := D) (ci := 3) (v := .ref q13) (ty := .array .int) (C := RX3) (T := TX3) (N := 5) hx hb hts hiX3 tyX3 tyX3_ok nmX3 hown hK hP hD hS 2 rfl rfl 2 (by decide) (hts (.fieldLink RX3 15 "ArcGuesser$Learner" "tried" "[I") (List.mem_of_getElem? (i := 6) rfl)) (fun _ h9 => h9) rfl hin rfl (by decide +kernel) rfl rfl (Nat.le_of_ble_eq_true rfl) dX3_init_15 (fun H locs hP hD hS => ?_)
  have hP : va_P D vwCl ((q13, .inl (cA 0, 3, .inl (fun _ => (0 : Int32)))) :: (q6, .inl (cA 0, 3, .inl (fun _ => (0 : Int32)))) :: (h0, .inr (3, [.int 0, .ref q6, .ref q13, .null, .null])) :: wr) H := hP
  have hD : va_D A ((q13, .inl (cA 0, 3, .inl (fun _ => (0 : Int32)))) :: (q6, .inl (cA 0, 3, .inl (fun _ => (0 : Int32)))) :: (h0, .inr (3, [.int 0, .ref q6, .ref q13, .null, .null])) :: wr) := hD
  refine lv_aload_n hx hb dX3_init_18 rfl (lv_at hl 0 rfl) ?_
  refine lv_iconst (v := (3 : Int32)) hx hb dX3_init_19 (by decide) ?_
  refine va_newaT (atype := .int) (ty := .int) (cA := cA 0) (N' := 3) (n := (3 : Int32)) (a0 := (3, .inl (fun _ => (0 : Int32)))) hx hb (hts (.arrayClass .int) (List.mem_of_getElem? (i := 4) rfl)) rfl hK hP hD hS hA 0 rfl ha_i (by decide +kernel) (by decide +kernel) (by decide +kernel) (by decide +kernel) (by decide +kernel) dX3_init_20 (fun q20 H hP hD hS => ?_)
  have hP : va_P D vwCl ((q20, .inl (cA 0, 3, .inl (fun _ => (0 : Int32)))) :: (q13, .inl (cA 0, 3, .inl (fun _ => (0 : Int32)))) :: (q6, .inl (cA 0, 3, .inl (fun _ => (0 : Int32)))) :: (h0, .inr (3, [.int 0, .ref q6, .ref q13, .null, .null])) :: wr) H := hP
  have hD : va_D A ((q20, .inl (cA 0, 3, .inl (fun _ => (0 : Int32)))) :: (q13, .inl (cA 0, 3, .inl (fun _ => (0 : Int32)))) :: (q6, .inl (cA 0, 3, .inl (fun _ => (0 : Int32)))) :: (h0, .inr (3, [.int 0, .ref q6, .ref q13, .null, .null])) :: wr) := hD
  refine W.widen (k := 3) (n := 9) (by omega) (by omega) ?_
  refine va_putF (D := D) (ci := 3) (v := .ref q20) (ty := .array .int) (C := RX3) (T := TX3) (N := 5) hx hb hts hiX3 tyX3 tyX3_ok nmX3 hown hK hP hD hS 3 rfl rfl 3 (by decide) (hts (.fieldLink RX3 18 "ArcGuesser$Learner" "best" "[I") (List.mem_of_getElem? (i := 7) rfl)) (fun _ h9 => h9) rfl hin rfl (by decide +kernel) rfl rfl (Nat.le_of_ble_eq_true rfl) dX3_init_22 (fun H locs hP hD hS => ?_)
  have hP : va_P D vwCl ((q20, .inl (cA 0, 3, .inl (fun _ => (0 : Int32)))) :: (q13, .inl (cA 0, 3, .inl (fun _ => (0 : Int32)))) :: (q6, .inl (cA 0, 3, .inl (fun _ => (0 : Int32)))) :: (h0, .inr (3, [.int 0, .ref q6, .ref q13, .ref q20, .null])) :: wr) H := hP
  have hD : va_D A ((q20, .inl (cA 0, 3, .inl (fun _ => (0 : Int32)))) :: (q13, .inl (cA 0, 3, .inl (fun _ => (0 : Int32)))) :: (q6, .inl (cA 0, 3, .inl (fun _ => (0 : Int32)))) :: (h0, .inr (3, [.int 0, .ref q6, .ref q13, .ref q20, .null])) :: wr) := hD
  refine lv_aload_n hx hb dX3_init_25 rfl (lv_at hl 0 rfl) ?_
  refine lv_iconst (v := (3 : Int32)) hx hb dX3_init_26 (by decide) ?_
  refine lv_sipush (v := (132 : Int32)) hx hb dX3_init_27 (by decide) ?_
  have hP : va_P D vwCl (((q20, .inl (cA 0, 3, .inl (fun _ => (0 : Int32)))) :: (q13, .inl (cA 0, 3, .inl (fun _ => (0 : Int32)))) :: (q6, .inl (cA 0, 3, .inl (fun _ => (0 : Int32)))) :: (h0, .inr (3, [.int 0, .ref q6, .ref q13, .ref q20, .null])) :: wr) ++ va_pl [] (fun _ => (.inl (cA 1, 0, .inl (fun _ => (0 : Int32))) : va_E))) H := (List.append_nil ((q20, .inl (cA 0, 3, .inl (fun _ => (0 : Int32)))) :: (q13, .inl (cA 0, 3, .inl (fun _ => (0 : Int32)))) :: (q6, .inl (cA 0, 3, .inl (fun _ => (0 : Int32)))) :: (h0, .inr (3, [.int 0, .ref q6, .ref q13, .ref q20, .null])) :: wr)).symm ▸ hP
  have hD : va_D A (((q20, .inl (cA 0, 3, .inl (fun _ => (0 : Int32)))) :: (q13, .inl (cA 0, 3, .inl (fun _ => (0 : Int32)))) :: (q6, .inl (cA 0, 3, .inl (fun _ => (0 : Int32)))) :: (h0, .inr (3, [.int 0, .ref q6, .ref q13, .ref q20, .null])) :: wr) ++ va_pl [] (fun _ => (.inl (cA 1, 0, .inl (fun _ => (0 : Int32))) : va_E))) := (List.append_nil ((q20, .inl (cA 0, 3, .inl (fun _ => (0 : Int32)))) :: (q13, .inl (cA 0, 3, .inl (fun _ => (0 : Int32)))) :: (q6, .inl (cA 0, 3, .inl (fun _ => (0 : Int32)))) :: (h0, .inr (3, [.int 0, .ref q6, .ref q13, .ref q20, .null])) :: wr)).symm ▸ hD
  refine va_mna (N' := 3) (K' := 132) (ty := .long) (cy := cA 1) (z := (132, .inr (.inl (fun _ => (0 : Int64))))) hx hb hown (hts (.classLink RX3 21 "[[J") (List.mem_of_getElem? (i := 8) rfl)) hO (hts (.arrayClass .long) (List.mem_of_getElem? (i := 9) rfl)) ((hK.2 1 _ rfl).2) hK hP hD hS hA (by decide +kernel) (by decide +kernel) (by decide +kernel) (by decide +kernel) (by decide +kernel) (by decide +kernel) (by decide +kernel) rfl rfl (by decide +kernel) (by decide +kernel) hz_l dX3_init_30 (fun q30 r cA9 H hr1 hr2 hK9 hP hD hS => ?_)
  have e9 : cA9 = cA 2 := Option.some.inj (((hK9.2 3 _ rfl).2).symm.trans ((hK.2 2 _ rfl).2))
  rw [e9, mna3] at hP hD
  clear e9 hK9
  have hP := va_P.swap (a := []) hP
  have hD := va_D.swap (a := []) hD
  have hP : va_P D vwCl ((q30, .inl (cA 2, 3, .inr (.inr (.inr (.inr (fun i => if i = 0 then some (r 0) else if i = 1 then some (r 1) else if i = 2 then some (r 2) else none)))))) :: (r 0, .inl (cA 1, 132, .inr (.inl (fun _ => (0 : Int64))))) :: (r 1, .inl (cA 1, 132, .inr (.inl (fun _ => (0 : Int64))))) :: (r 2, .inl (cA 1, 132, .inr (.inl (fun _ => (0 : Int64))))) :: (q20, .inl (cA 0, 3, .inl (fun _ => (0 : Int32)))) :: (q13, .inl (cA 0, 3, .inl (fun _ => (0 : Int32)))) :: (q6, .inl (cA 0, 3, .inl (fun _ => (0 : Int32)))) :: (h0, .inr (3, [.int 0, .ref q6, .ref q13, .ref q20, .null])) :: wr) H := hP
  have hD : va_D A ((q30, .inl (cA 2, 3, .inr (.inr (.inr (.inr (fun i => if i = 0 then some (r 0) else if i = 1 then some (r 1) else if i = 2 then some (r 2) else none)))))) :: (r 0, .inl (cA 1, 132, .inr (.inl (fun _ => (0 : Int64))))) :: (r 1, .inl (cA 1, 132, .inr (.inl (fun _ => (0 : Int64))))) :: (r 2, .inl (cA 1, 132, .inr (.inl (fun _ => (0 : Int64))))) :: (q20, .inl (cA 0, 3, .inl (fun _ => (0 : Int32)))) :: (q13, .inl (cA 0, 3, .inl (fun _ => (0 : Int32)))) :: (q6, .inl (cA 0, 3, .inl (fun _ => (0 : Int32)))) :: (h0, .inr (3, [.int 0, .ref q6, .ref q13, .ref q20, .null])) :: wr) := hD
  refine W.widen (k := 7) (n := 408) (by omega) (by omega) ?_
  refine va_putF (D := D) (ci := 3) (v := .ref q30) (ty := .array (.array .long)) (C := RX3) (T := TX3) (N := 5) hx hb hts hiX3 tyX3 tyX3_ok nmX3 hown hK hP hD hS 7 rfl rfl 4 (by decide) (hts (.fieldLink RX3 23 "ArcGuesser$Learner" "parts" "[[J") (List.mem_of_getElem? (i := 10) rfl)) (fun _ h9 => h9) rfl hin rfl (by decide +kernel) rfl rfl (Nat.le_of_ble_eq_true rfl) dX3_init_34 (fun H locs hP hD hS => ?_)
  have hP : va_P D vwCl ((q30, .inl (cA 2, 3, .inr (.inr (.inr (.inr (fun i => if i = 0 then some (r 0) else if i = 1 then some (r 1) else if i = 2 then some (r 2) else none)))))) :: (r 0, .inl (cA 1, 132, .inr (.inl (fun _ => (0 : Int64))))) :: (r 1, .inl (cA 1, 132, .inr (.inl (fun _ => (0 : Int64))))) :: (r 2, .inl (cA 1, 132, .inr (.inl (fun _ => (0 : Int64))))) :: (q20, .inl (cA 0, 3, .inl (fun _ => (0 : Int32)))) :: (q13, .inl (cA 0, 3, .inl (fun _ => (0 : Int32)))) :: (q6, .inl (cA 0, 3, .inl (fun _ => (0 : Int32)))) :: (h0, .inr (3, [.int 0, .ref q6, .ref q13, .ref q20, .ref q30])) :: wr) H := hP
  have hD : va_D A ((q30, .inl (cA 2, 3, .inr (.inr (.inr (.inr (fun i => if i = 0 then some (r 0) else if i = 1 then some (r 1) else if i = 2 then some (r 2) else none)))))) :: (r 0, .inl (cA 1, 132, .inr (.inl (fun _ => (0 : Int64))))) :: (r 1, .inl (cA 1, 132, .inr (.inl (fun _ => (0 : Int64))))) :: (r 2, .inl (cA 1, 132, .inr (.inl (fun _ => (0 : Int64))))) :: (q20, .inl (cA 0, 3, .inl (fun _ => (0 : Int32)))) :: (q13, .inl (cA 0, 3, .inl (fun _ => (0 : Int32)))) :: (q6, .inl (cA 0, 3, .inl (fun _ => (0 : Int32)))) :: (h0, .inr (3, [.int 0, .ref q6, .ref q13, .ref q20, .ref q30])) :: wr) := hD
  exact W.vret hx hb hr (fun t ht hW => ⟨⟨(fun k => match k with | 0 => q6 | 1 => q13 | 2 => q20 | 3 => q30 | 4 => r 0 | 5 => r 1 | 6 => r 2 | _ => 0), rfl, trivial, by rw [ht]; exact hP, hD⟩, hS.F ht⟩) hS.2.2 dX3_init_37
/-! ArcGuesser$Measures -/
set_option maxHeartbeats 4000000 in
set_option maxRecDepth 100000 in
theorem mtX4_init (l : Launch) (D : va_G) (cA : Nat → ClassId) (A : Nat → Prop) (wr : va_W) (h0 h1 : Nat) : Met l yX4_init wsX4_init ({ frames := 1, cells := 0, slots := 0, locals := 20 }) (va_Pc [.ref h0, .ref h1] (stN D (tyX cA) nwX ((h0, .inr (4, [.null, .int 0, .int 0, .int 0])) :: wr) A)) (va_Qv (fun _ : Nat → Nat => True) (fun u t => va_P D vwCl ((h0, .inr (4, [.ref h1, .int 0, .int 0, .int 0])) :: wr) t.heap ∧ va_D A ((h0, .inr (4, [.ref h1, .int 0, .int 0, .int 0])) :: wr)) A) 0 0 A := by
  refine Met.ofW (cc := cX4_init) (maxL := 2) (ret := none) (by decide) rfl ?_
  intro p e s m args below meth c s₁ B hml hv
  obtain ⟨rfl, hA, hN, hO, hP, hK, hD⟩ := hv
  have hx := B.exec
  have hb := B.bytes
  have hr := B.returns
  have hts := atoms_spec (ws := wsX4_init) B.pre
  have hown : s.vm.findClass RX4 = some m.cls := findClass_of_methodNamed B.named
  have hlocks := B.notSynchronized
  have hin : meth.name = "<init>" := (name_of_methodNamed B.named B.method).1
  have hiX4 : ∀ w ∈ wsX40, w ∈ wsX4_init := by decide +kernel
  have hS : va_S A s.heap s.heap [] := va_S.rf
  have hP := hP
  have hl := lv_entry ([.ref h0, .ref h1]) (n := 2) (Nat.le_of_ble_eq_true rfl)
  rw [lg_entry_eq]
  generalize (lg_sl ([.ref h0, .ref h1]) ++ List.replicate (2 - (lg_sl ([.ref h0, .ref h1])).length) Slot.unset).toArray = ls at hl ⊢
  have hl : lv_has ls 2 [(0, .ref h0), (1, .ref h1)] := hl
  refine lv_aload_n hx hb dX4_init_0 rfl (lv_at hl 0 rfl) ?_
  refine W.objInit hx hb hown (hts (.methodLink RX4 3 objectInit) (List.mem_of_getElem? (i := 1) rfl)) (hts (.instanceMethod objectInit) (List.mem_of_getElem? (i := 2) rfl)) (hts (.code objectInit ⟨#[0xb1]⟩ 1 none) (List.mem_of_getElem? (i := 3) rfl)) rfl (by rw [hml]; exact hl.1) rfl dX4_init_1 (Nat.le_of_ble_eq_true rfl) (Nat.le_of_ble_eq_true rfl) ?_
  refine W.eq (g2 := F0 m 4 ls []) rfl ?_
  refine lv_aload_n hx hb dX4_init_4 rfl (lv_at hl 0 rfl) ?_
  refine lv_aload_n hx hb dX4_init_5 rfl (lv_at hl 1 rfl) ?_
  refine va_putF (D := D) (ci := 4) (v := .ref h1) (ty := .object "ArcGuesser$Net") (C := RX4) (T := TX4) (N := 4) hx hb hts hiX4 tyX4 tyX4_ok nmX4 hown hK hP hD hS 0 rfl rfl 0 (by decide) (hts (.fieldLink RX4 9 "ArcGuesser$Measures" "net" "LArcGuesser$Net;") (List.mem_of_getElem? (i := 4) rfl)) (fun _ h9 => h9) rfl hin rfl (by decide +kernel) rfl rfl (Nat.le_of_ble_eq_true rfl) dX4_init_6 (fun H locs hP hD hS => ?_)
  have hP : va_P D vwCl ((h0, .inr (4, [.ref h1, .int 0, .int 0, .int 0])) :: wr) H := hP
  have hD : va_D A ((h0, .inr (4, [.ref h1, .int 0, .int 0, .int 0])) :: wr) := hD
  exact W.vret hx hb hr (fun t ht hW => ⟨⟨(fun _ => 0), rfl, trivial, by rw [ht]; exact hP, hD⟩, hS.F ht⟩) hS.2.2 dX4_init_9
/-! ArcGuesser$Mix -/
set_option maxHeartbeats 4000000 in
set_option maxRecDepth 100000 in
theorem mtX5_init (l : Launch) (D : va_G) (cA : Nat → ClassId) (A : Nat → Prop) (wr : va_W) (h0 h1 : Nat) : Met l yX5_init wsX5_init ({ frames := 1, cells := 1, slots := 11, locals := 20 }) (va_Pc [.ref h0, .ref h1] (stN D (tyX cA) nwX ((h0, .inr (5, [.null, .null])) :: wr) A)) (va_Qv (fun _ : Nat → Nat => True) (fun u t => va_P D vwCl (((u 0), .inl (cA 0, 11, .inl (fun _ => (0 : Int32)))) :: (h0, .inr (5, [.ref h1, .ref (u 0)])) :: wr) t.heap ∧ va_D A (((u 0), .inl (cA 0, 11, .inl (fun _ => (0 : Int32)))) :: (h0, .inr (5, [.ref h1, .ref (u 0)])) :: wr)) A) 1 11 A := by
  refine Met.ofW (cc := cX5_init) (maxL := 2) (ret := none) (by decide) rfl ?_
  intro p e s m args below meth c s₁ B hml hv
  obtain ⟨rfl, hA, hN, hO, hP, hK, hD⟩ := hv
  have hx := B.exec
  have hb := B.bytes
  have hr := B.returns
  have hts := atoms_spec (ws := wsX5_init) B.pre
  have hown : s.vm.findClass RX5 = some m.cls := findClass_of_methodNamed B.named
  have hlocks := B.notSynchronized
  have hin : meth.name = "<init>" := (name_of_methodNamed B.named B.method).1
  have hiX5 : ∀ w ∈ wsX50, w ∈ wsX5_init := by decide +kernel
  have hS : va_S A s.heap s.heap [] := va_S.rf
  have hP := hP
  have hl := lv_entry ([.ref h0, .ref h1]) (n := 2) (Nat.le_of_ble_eq_true rfl)
  rw [lg_entry_eq]
  generalize (lg_sl ([.ref h0, .ref h1]) ++ List.replicate (2 - (lg_sl ([.ref h0, .ref h1])).length) Slot.unset).toArray = ls at hl ⊢
  have hl : lv_has ls 2 [(0, .ref h0), (1, .ref h1)] := hl
  refine lv_aload_n hx hb dX5_init_0 rfl (lv_at hl 0 rfl) ?_
  refine W.objInit hx hb hown (hts (.methodLink RX5 3 objectInit) (List.mem_of_getElem? (i := 1) rfl)) (hts (.instanceMethod objectInit) (List.mem_of_getElem? (i := 2) rfl)) (hts (.code objectInit ⟨#[0xb1]⟩ 1 none) (List.mem_of_getElem? (i := 3) rfl)) rfl (by rw [hml]; exact hl.1) rfl dX5_init_1 (Nat.le_of_ble_eq_true rfl) (Nat.le_of_ble_eq_true rfl) ?_
  refine W.eq (g2 := F0 m 4 ls []) rfl ?_
  refine lv_aload_n hx hb dX5_init_4 rfl (lv_at hl 0 rfl) ?_
  refine lv_bipush (v := (11 : Int32)) hx hb dX5_init_5 (by decide) ?_
  refine va_newaT (atype := .int) (ty := .int) (cA := cA 0) (N' := 11) (n := (11 : Int32)) (a0 := (11, .inl (fun _ => (0 : Int32)))) hx hb (hts (.arrayClass .int) (List.mem_of_getElem? (i := 4) rfl)) rfl hK hP hD hS hA 0 rfl ha_i (by decide +kernel) (by decide +kernel) (by decide +kernel) (by decide +kernel) (by decide +kernel) dX5_init_7 (fun q7 H hP hD hS => ?_)
  have hP : va_P D vwCl ((q7, .inl (cA 0, 11, .inl (fun _ => (0 : Int32)))) :: (h0, .inr (5, [.null, .null])) :: wr) H := hP
  have hD : va_D A ((q7, .inl (cA 0, 11, .inl (fun _ => (0 : Int32)))) :: (h0, .inr (5, [.null, .null])) :: wr) := hD
  refine W.widen (k := 1) (n := 11) (by omega) (by omega) ?_
  refine va_putF (D := D) (ci := 5) (v := .ref q7) (ty := .array .int) (C := RX5) (T := TX5) (N := 2) hx hb hts hiX5 tyX5 tyX5_ok nmX5 hown hK hP hD hS 1 rfl rfl 1 (by decide) (hts (.fieldLink RX5 9 "ArcGuesser$Mix" "weights" "[I") (List.mem_of_getElem? (i := 5) rfl)) (fun _ h9 => h9) rfl hin rfl (by decide +kernel) rfl rfl (Nat.le_of_ble_eq_true rfl) dX5_init_9 (fun H locs hP hD hS => ?_)
  have hP : va_P D vwCl ((q7, .inl (cA 0, 11, .inl (fun _ => (0 : Int32)))) :: (h0, .inr (5, [.null, .ref q7])) :: wr) H := hP
  have hD : va_D A ((q7, .inl (cA 0, 11, .inl (fun _ => (0 : Int32)))) :: (h0, .inr (5, [.null, .ref q7])) :: wr) := hD
  refine lv_aload_n hx hb dX5_init_12 rfl (lv_at hl 0 rfl) ?_
  refine lv_aload_n hx hb dX5_init_13 rfl (lv_at hl 1 rfl) ?_
  refine va_putF (D := D) (ci := 5) (v := .ref h1) (ty := .object "ArcGuesser$Measures") (C := RX5) (T := TX5) (N := 2) hx hb hts hiX5 tyX5 tyX5_ok nmX5 hown hK hP hD hS 1 rfl rfl 0 (by decide) (hts (.fieldLink RX5 15 "ArcGuesser$Mix" "measures" "LArcGuesser$Measures;") (List.mem_of_getElem? (i := 6) rfl)) (fun _ h9 => h9) rfl hin rfl (by decide +kernel) rfl rfl (Nat.le_of_ble_eq_true rfl) dX5_init_14 (fun H locs hP hD hS => ?_)
  have hP : va_P D vwCl ((q7, .inl (cA 0, 11, .inl (fun _ => (0 : Int32)))) :: (h0, .inr (5, [.ref h1, .ref q7])) :: wr) H := hP
  have hD : va_D A ((q7, .inl (cA 0, 11, .inl (fun _ => (0 : Int32)))) :: (h0, .inr (5, [.ref h1, .ref q7])) :: wr) := hD
  exact W.vret hx hb hr (fun t ht hW => ⟨⟨(fun k => match k with | 0 => q7 | _ => 0), rfl, trivial, by rw [ht]; exact hP, hD⟩, hS.F ht⟩) hS.2.2 dX5_init_17
/-! ArcGuesser$Net -/
set_option maxHeartbeats 4000000 in
set_option maxRecDepth 100000 in
theorem mtX6_init (l : Launch) (D : va_G) (cA : Nat → ClassId) (A : Nat → Prop) (wr : va_W) (h0 : Nat) : Met l yX6_init wsX6_init ({ frames := 1, cells := 9, slots := 840, locals := 20 }) (va_Pc [.ref h0] (stN D (tyX cA) nwX ((h0, .inr (6, [.int 0, .int 0, .int 0, .int 0, .null, .null, .null, .null, .null, .null, .null, .null, .null])) :: wr) A)) (va_Qv (fun _ : Nat → Nat => True) (fun u t => va_P D vwCl (((u 8), .inl (cA 0, 12, .inl (fun _ => (0 : Int32)))) :: ((u 7), .inl (cA 0, 12, .inl (fun _ => (0 : Int32)))) :: ((u 6), .inl (cA 0, 12, .inl (fun _ => (0 : Int32)))) :: ((u 5), .inl (cA 0, 144, .inl (fun _ => (0 : Int32)))) :: ((u 4), .inl (cA 0, 132, .inl (fun _ => (0 : Int32)))) :: ((u 3), .inl (cA 0, 132, .inl (fun _ => (0 : Int32)))) :: ((u 2), .inl (cA 0, 132, .inl (fun _ => (0 : Int32)))) :: ((u 1), .inl (cA 0, 132, .inl (fun _ => (0 : Int32)))) :: ((u 0), .inl (cA 0, 132, .inl (fun _ => (0 : Int32)))) :: (h0, .inr (6, [.int 0, .int 0, .int 0, .int 0, .ref (u 0), .ref (u 1), .ref (u 2), .ref (u 3), .ref (u 4), .ref (u 5), .ref (u 6), .ref (u 7), .ref (u 8)])) :: wr) t.heap ∧ va_D A (((u 8), .inl (cA 0, 12, .inl (fun _ => (0 : Int32)))) :: ((u 7), .inl (cA 0, 12, .inl (fun _ => (0 : Int32)))) :: ((u 6), .inl (cA 0, 12, .inl (fun _ => (0 : Int32)))) :: ((u 5), .inl (cA 0, 144, .inl (fun _ => (0 : Int32)))) :: ((u 4), .inl (cA 0, 132, .inl (fun _ => (0 : Int32)))) :: ((u 3), .inl (cA 0, 132, .inl (fun _ => (0 : Int32)))) :: ((u 2), .inl (cA 0, 132, .inl (fun _ => (0 : Int32)))) :: ((u 1), .inl (cA 0, 132, .inl (fun _ => (0 : Int32)))) :: ((u 0), .inl (cA 0, 132, .inl (fun _ => (0 : Int32)))) :: (h0, .inr (6, [.int 0, .int 0, .int 0, .int 0, .ref (u 0), .ref (u 1), .ref (u 2), .ref (u 3), .ref (u 4), .ref (u 5), .ref (u 6), .ref (u 7), .ref (u 8)])) :: wr)) A) 9 840 A := by
  refine Met.ofW (cc := cX6_init) (maxL := 1) (ret := none) (by decide) rfl ?_
  intro p e s m args below meth c s₁ B hml hv
  obtain ⟨rfl, hA, hN, hO, hP, hK, hD⟩ := hv
  have hx := B.exec
  have hb := B.bytes
  have hr := B.returns
  have hts := atoms_spec (ws := wsX6_init) B.pre
  have hown : s.vm.findClass RX6 = some m.cls := findClass_of_methodNamed B.named
  have hlocks := B.notSynchronized
  have hin : meth.name = "<init>" := (name_of_methodNamed B.named B.method).1
  have hiX6 : ∀ w ∈ wsX60, w ∈ wsX6_init := by decide +kernel
  have hS : va_S A s.heap s.heap [] := va_S.rf
  have hP := hP
  have hl := lv_entry ([.ref h0]) (n := 1) (Nat.le_of_ble_eq_true rfl)
  rw [lg_entry_eq]
  generalize (lg_sl ([.ref h0]) ++ List.replicate (1 - (lg_sl ([.ref h0])).length) Slot.unset).toArray = ls at hl ⊢
  have hl : lv_has ls 1 [(0, .ref h0)] := hl
  refine lv_aload_n hx hb dX6_init_0 rfl (lv_at hl 0 rfl) ?_
  refine W.objInit hx hb hown (hts (.methodLink RX6 3 objectInit) (List.mem_of_getElem? (i := 1) rfl)) (hts (.instanceMethod objectInit) (List.mem_of_getElem? (i := 2) rfl)) (hts (.code objectInit ⟨#[0xb1]⟩ 1 none) (List.mem_of_getElem? (i := 3) rfl)) rfl (by rw [hml]; exact hl.1) rfl dX6_init_1 (Nat.le_of_ble_eq_true rfl) (Nat.le_of_ble_eq_true rfl) ?_
  refine W.eq (g2 := F0 m 4 ls []) rfl ?_
  refine lv_aload_n hx hb dX6_init_4 rfl (lv_at hl 0 rfl) ?_
  refine lv_sipush (v := (132 : Int32)) hx hb dX6_init_5 (by decide) ?_
  refine va_newaT (atype := .int) (ty := .int) (cA := cA 0) (N' := 132) (n := (132 : Int32)) (a0 := (132, .inl (fun _ => (0 : Int32)))) hx hb (hts (.arrayClass .int) (List.mem_of_getElem? (i := 4) rfl)) rfl hK hP hD hS hA 0 rfl ha_i (by decide +kernel) (by decide +kernel) (by decide +kernel) (by decide +kernel) (by decide +kernel) dX6_init_8 (fun q8 H hP hD hS => ?_)
  have hP : va_P D vwCl ((q8, .inl (cA 0, 132, .inl (fun _ => (0 : Int32)))) :: (h0, .inr (6, [.int 0, .int 0, .int 0, .int 0, .null, .null, .null, .null, .null, .null, .null, .null, .null])) :: wr) H := hP
  have hD : va_D A ((q8, .inl (cA 0, 132, .inl (fun _ => (0 : Int32)))) :: (h0, .inr (6, [.int 0, .int 0, .int 0, .int 0, .null, .null, .null, .null, .null, .null, .null, .null, .null])) :: wr) := hD
  refine W.widen (k := 1) (n := 132) (by omega) (by omega) ?_
  refine va_putF (D := D) (ci := 6) (v := .ref q8) (ty := .array .int) (C := RX6) (T := TX6) (N := 13) hx hb hts hiX6 tyX6 tyX6_ok nmX6 hown hK hP hD hS 1 rfl rfl 4 (by decide) (hts (.fieldLink RX6 9 "ArcGuesser$Net" "from" "[I") (List.mem_of_getElem? (i := 5) rfl)) (fun _ h9 => h9) rfl hin rfl (by decide +kernel) rfl rfl (Nat.le_of_ble_eq_true rfl) dX6_init_10 (fun H locs hP hD hS => ?_)
  have hP : va_P D vwCl ((q8, .inl (cA 0, 132, .inl (fun _ => (0 : Int32)))) :: (h0, .inr (6, [.int 0, .int 0, .int 0, .int 0, .ref q8, .null, .null, .null, .null, .null, .null, .null, .null])) :: wr) H := hP
  have hD : va_D A ((q8, .inl (cA 0, 132, .inl (fun _ => (0 : Int32)))) :: (h0, .inr (6, [.int 0, .int 0, .int 0, .int 0, .ref q8, .null, .null, .null, .null, .null, .null, .null, .null])) :: wr) := hD
  refine lv_aload_n hx hb dX6_init_13 rfl (lv_at hl 0 rfl) ?_
  refine lv_sipush (v := (132 : Int32)) hx hb dX6_init_14 (by decide) ?_
  refine va_newaT (atype := .int) (ty := .int) (cA := cA 0) (N' := 132) (n := (132 : Int32)) (a0 := (132, .inl (fun _ => (0 : Int32)))) hx hb (hts (.arrayClass .int) (List.mem_of_getElem? (i := 4) rfl)) rfl hK hP hD hS hA 0 rfl ha_i (by decide +kernel) (by decide +kernel) (by decide +kernel) (by decide +kernel) (by decide +kernel) dX6_init_17 (fun q17 H hP hD hS => ?_)
  have hP : va_P D vwCl ((q17, .inl (cA 0, 132, .inl (fun _ => (0 : Int32)))) :: (q8, .inl (cA 0, 132, .inl (fun _ => (0 : Int32)))) :: (h0, .inr (6, [.int 0, .int 0, .int 0, .int 0, .ref q8, .null, .null, .null, .null, .null, .null, .null, .null])) :: wr) H := hP
  have hD : va_D A ((q17, .inl (cA 0, 132, .inl (fun _ => (0 : Int32)))) :: (q8, .inl (cA 0, 132, .inl (fun _ => (0 : Int32)))) :: (h0, .inr (6, [.int 0, .int 0, .int 0, .int 0, .ref q8, .null, .null, .null, .null, .null, .null, .null, .null])) :: wr) := hD
  refine W.widen (k := 2) (n := 264) (by omega) (by omega) ?_
  refine va_putF (D := D) (ci := 6) (v := .ref q17) (ty := .array .int) (C := RX6) (T := TX6) (N := 13) hx hb hts hiX6 tyX6 tyX6_ok nmX6 hown hK hP hD hS 2 rfl rfl 5 (by decide) (hts (.fieldLink RX6 15 "ArcGuesser$Net" "to" "[I") (List.mem_of_getElem? (i := 6) rfl)) (fun _ h9 => h9) rfl hin rfl (by decide +kernel) rfl rfl (Nat.le_of_ble_eq_true rfl) dX6_init_19 (fun H locs hP hD hS => ?_)
  have hP : va_P D vwCl ((q17, .inl (cA 0, 132, .inl (fun _ => (0 : Int32)))) :: (q8, .inl (cA 0, 132, .inl (fun _ => (0 : Int32)))) :: (h0, .inr (6, [.int 0, .int 0, .int 0, .int 0, .ref q8, .ref q17, .null, .null, .null, .null, .null, .null, .null])) :: wr) H := hP
  have hD : va_D A ((q17, .inl (cA 0, 132, .inl (fun _ => (0 : Int32)))) :: (q8, .inl (cA 0, 132, .inl (fun _ => (0 : Int32)))) :: (h0, .inr (6, [.int 0, .int 0, .int 0, .int 0, .ref q8, .ref q17, .null, .null, .null, .null, .null, .null, .null])) :: wr) := hD
  refine lv_aload_n hx hb dX6_init_22 rfl (lv_at hl 0 rfl) ?_
  refine lv_sipush (v := (132 : Int32)) hx hb dX6_init_23 (by decide) ?_
  refine va_newaT (atype := .int) (ty := .int) (cA := cA 0) (N' := 132) (n := (132 : Int32)) (a0 := (132, .inl (fun _ => (0 : Int32)))) hx hb (hts (.arrayClass .int) (List.mem_of_getElem? (i := 4) rfl)) rfl hK hP hD hS hA 0 rfl ha_i (by decide +kernel) (by decide +kernel) (by decide +kernel) (by decide +kernel) (by decide +kernel) dX6_init_26 (fun q26 H hP hD hS => ?_)
  have hP : va_P D vwCl ((q26, .inl (cA 0, 132, .inl (fun _ => (0 : Int32)))) :: (q17, .inl (cA 0, 132, .inl (fun _ => (0 : Int32)))) :: (q8, .inl (cA 0, 132, .inl (fun _ => (0 : Int32)))) :: (h0, .inr (6, [.int 0, .int 0, .int 0, .int 0, .ref q8, .ref q17, .null, .null, .null, .null, .null, .null, .null])) :: wr) H := hP
  have hD : va_D A ((q26, .inl (cA 0, 132, .inl (fun _ => (0 : Int32)))) :: (q17, .inl (cA 0, 132, .inl (fun _ => (0 : Int32)))) :: (q8, .inl (cA 0, 132, .inl (fun _ => (0 : Int32)))) :: (h0, .inr (6, [.int 0, .int 0, .int 0, .int 0, .ref q8, .ref q17, .null, .null, .null, .null, .null, .null, .null])) :: wr) := hD
  refine W.widen (k := 3) (n := 396) (by omega) (by omega) ?_
  refine va_putF (D := D) (ci := 6) (v := .ref q26) (ty := .array .int) (C := RX6) (T := TX6) (N := 13) hx hb hts hiX6 tyX6 tyX6_ok nmX6 hown hK hP hD hS 3 rfl rfl 6 (by decide) (hts (.fieldLink RX6 18 "ArcGuesser$Net" "states" "[I") (List.mem_of_getElem? (i := 7) rfl)) (fun _ h9 => h9) rfl hin rfl (by decide +kernel) rfl rfl (Nat.le_of_ble_eq_true rfl) dX6_init_28 (fun H locs hP hD hS => ?_)
  have hP : va_P D vwCl ((q26, .inl (cA 0, 132, .inl (fun _ => (0 : Int32)))) :: (q17, .inl (cA 0, 132, .inl (fun _ => (0 : Int32)))) :: (q8, .inl (cA 0, 132, .inl (fun _ => (0 : Int32)))) :: (h0, .inr (6, [.int 0, .int 0, .int 0, .int 0, .ref q8, .ref q17, .ref q26, .null, .null, .null, .null, .null, .null])) :: wr) H := hP
  have hD : va_D A ((q26, .inl (cA 0, 132, .inl (fun _ => (0 : Int32)))) :: (q17, .inl (cA 0, 132, .inl (fun _ => (0 : Int32)))) :: (q8, .inl (cA 0, 132, .inl (fun _ => (0 : Int32)))) :: (h0, .inr (6, [.int 0, .int 0, .int 0, .int 0, .ref q8, .ref q17, .ref q26, .null, .null, .null, .null, .null, .null])) :: wr) := hD
  refine lv_aload_n hx hb dX6_init_31 rfl (lv_at hl 0 rfl) ?_
  refine lv_sipush (v := (132 : Int32)) hx hb dX6_init_32 (by decide) ?_
  refine va_newaT (atype := .int) (ty := .int) (cA := cA 0) (N' := 132) (n := (132 : Int32)) (a0 := (132, .inl (fun _ => (0 : Int32)))) hx hb (hts (.arrayClass .int) (List.mem_of_getElem? (i := 4) rfl)) rfl hK hP hD hS hA 0 rfl ha_i (by decide +kernel) (by decide +kernel) (by decide +kernel) (by decide +kernel) (by decide +kernel) dX6_init_35 (fun q35 H hP hD hS => ?_)
  have hP : va_P D vwCl ((q35, .inl (cA 0, 132, .inl (fun _ => (0 : Int32)))) :: (q26, .inl (cA 0, 132, .inl (fun _ => (0 : Int32)))) :: (q17, .inl (cA 0, 132, .inl (fun _ => (0 : Int32)))) :: (q8, .inl (cA 0, 132, .inl (fun _ => (0 : Int32)))) :: (h0, .inr (6, [.int 0, .int 0, .int 0, .int 0, .ref q8, .ref q17, .ref q26, .null, .null, .null, .null, .null, .null])) :: wr) H := hP
  have hD : va_D A ((q35, .inl (cA 0, 132, .inl (fun _ => (0 : Int32)))) :: (q26, .inl (cA 0, 132, .inl (fun _ => (0 : Int32)))) :: (q17, .inl (cA 0, 132, .inl (fun _ => (0 : Int32)))) :: (q8, .inl (cA 0, 132, .inl (fun _ => (0 : Int32)))) :: (h0, .inr (6, [.int 0, .int 0, .int 0, .int 0, .ref q8, .ref q17, .ref q26, .null, .null, .null, .null, .null, .null])) :: wr) := hD
  refine W.widen (k := 4) (n := 528) (by omega) (by omega) ?_
  refine va_putF (D := D) (ci := 6) (v := .ref q35) (ty := .array .int) (C := RX6) (T := TX6) (N := 13) hx hb hts hiX6 tyX6 tyX6_ok nmX6 hown hK hP hD hS 4 rfl rfl 7 (by decide) (hts (.fieldLink RX6 21 "ArcGuesser$Net" "times" "[I") (List.mem_of_getElem? (i := 8) rfl)) (fun _ h9 => h9) rfl hin rfl (by decide +kernel) rfl rfl (Nat.le_of_ble_eq_true rfl) dX6_init_37 (fun H locs hP hD hS => ?_)
  have hP : va_P D vwCl ((q35, .inl (cA 0, 132, .inl (fun _ => (0 : Int32)))) :: (q26, .inl (cA 0, 132, .inl (fun _ => (0 : Int32)))) :: (q17, .inl (cA 0, 132, .inl (fun _ => (0 : Int32)))) :: (q8, .inl (cA 0, 132, .inl (fun _ => (0 : Int32)))) :: (h0, .inr (6, [.int 0, .int 0, .int 0, .int 0, .ref q8, .ref q17, .ref q26, .ref q35, .null, .null, .null, .null, .null])) :: wr) H := hP
  have hD : va_D A ((q35, .inl (cA 0, 132, .inl (fun _ => (0 : Int32)))) :: (q26, .inl (cA 0, 132, .inl (fun _ => (0 : Int32)))) :: (q17, .inl (cA 0, 132, .inl (fun _ => (0 : Int32)))) :: (q8, .inl (cA 0, 132, .inl (fun _ => (0 : Int32)))) :: (h0, .inr (6, [.int 0, .int 0, .int 0, .int 0, .ref q8, .ref q17, .ref q26, .ref q35, .null, .null, .null, .null, .null])) :: wr) := hD
  refine lv_aload_n hx hb dX6_init_40 rfl (lv_at hl 0 rfl) ?_
  refine lv_sipush (v := (132 : Int32)) hx hb dX6_init_41 (by decide) ?_
  refine va_newaT (atype := .int) (ty := .int) (cA := cA 0) (N' := 132) (n := (132 : Int32)) (a0 := (132, .inl (fun _ => (0 : Int32)))) hx hb (hts (.arrayClass .int) (List.mem_of_getElem? (i := 4) rfl)) rfl hK hP hD hS hA 0 rfl ha_i (by decide +kernel) (by decide +kernel) (by decide +kernel) (by decide +kernel) (by decide +kernel) dX6_init_44 (fun q44 H hP hD hS => ?_)
  have hP : va_P D vwCl ((q44, .inl (cA 0, 132, .inl (fun _ => (0 : Int32)))) :: (q35, .inl (cA 0, 132, .inl (fun _ => (0 : Int32)))) :: (q26, .inl (cA 0, 132, .inl (fun _ => (0 : Int32)))) :: (q17, .inl (cA 0, 132, .inl (fun _ => (0 : Int32)))) :: (q8, .inl (cA 0, 132, .inl (fun _ => (0 : Int32)))) :: (h0, .inr (6, [.int 0, .int 0, .int 0, .int 0, .ref q8, .ref q17, .ref q26, .ref q35, .null, .null, .null, .null, .null])) :: wr) H := hP
  have hD : va_D A ((q44, .inl (cA 0, 132, .inl (fun _ => (0 : Int32)))) :: (q35, .inl (cA 0, 132, .inl (fun _ => (0 : Int32)))) :: (q26, .inl (cA 0, 132, .inl (fun _ => (0 : Int32)))) :: (q17, .inl (cA 0, 132, .inl (fun _ => (0 : Int32)))) :: (q8, .inl (cA 0, 132, .inl (fun _ => (0 : Int32)))) :: (h0, .inr (6, [.int 0, .int 0, .int 0, .int 0, .ref q8, .ref q17, .ref q26, .ref q35, .null, .null, .null, .null, .null])) :: wr) := hD
  refine W.widen (k := 5) (n := 660) (by omega) (by omega) ?_
  refine va_putF (D := D) (ci := 6) (v := .ref q44) (ty := .array .int) (C := RX6) (T := TX6) (N := 13) hx hb hts hiX6 tyX6 tyX6_ok nmX6 hown hK hP hD hS 5 rfl rfl 8 (by decide) (hts (.fieldLink RX6 24 "ArcGuesser$Net" "arcPairs" "[I") (List.mem_of_getElem? (i := 9) rfl)) (fun _ h9 => h9) rfl hin rfl (by decide +kernel) rfl rfl (Nat.le_of_ble_eq_true rfl) dX6_init_46 (fun H locs hP hD hS => ?_)
  have hP : va_P D vwCl ((q44, .inl (cA 0, 132, .inl (fun _ => (0 : Int32)))) :: (q35, .inl (cA 0, 132, .inl (fun _ => (0 : Int32)))) :: (q26, .inl (cA 0, 132, .inl (fun _ => (0 : Int32)))) :: (q17, .inl (cA 0, 132, .inl (fun _ => (0 : Int32)))) :: (q8, .inl (cA 0, 132, .inl (fun _ => (0 : Int32)))) :: (h0, .inr (6, [.int 0, .int 0, .int 0, .int 0, .ref q8, .ref q17, .ref q26, .ref q35, .ref q44, .null, .null, .null, .null])) :: wr) H := hP
  have hD : va_D A ((q44, .inl (cA 0, 132, .inl (fun _ => (0 : Int32)))) :: (q35, .inl (cA 0, 132, .inl (fun _ => (0 : Int32)))) :: (q26, .inl (cA 0, 132, .inl (fun _ => (0 : Int32)))) :: (q17, .inl (cA 0, 132, .inl (fun _ => (0 : Int32)))) :: (q8, .inl (cA 0, 132, .inl (fun _ => (0 : Int32)))) :: (h0, .inr (6, [.int 0, .int 0, .int 0, .int 0, .ref q8, .ref q17, .ref q26, .ref q35, .ref q44, .null, .null, .null, .null])) :: wr) := hD
  refine lv_aload_n hx hb dX6_init_49 rfl (lv_at hl 0 rfl) ?_
  refine lv_sipush (v := (144 : Int32)) hx hb dX6_init_50 (by decide) ?_
  refine va_newaT (atype := .int) (ty := .int) (cA := cA 0) (N' := 144) (n := (144 : Int32)) (a0 := (144, .inl (fun _ => (0 : Int32)))) hx hb (hts (.arrayClass .int) (List.mem_of_getElem? (i := 4) rfl)) rfl hK hP hD hS hA 0 rfl ha_i (by decide +kernel) (by decide +kernel) (by decide +kernel) (by decide +kernel) (by decide +kernel) dX6_init_53 (fun q53 H hP hD hS => ?_)
  have hP : va_P D vwCl ((q53, .inl (cA 0, 144, .inl (fun _ => (0 : Int32)))) :: (q44, .inl (cA 0, 132, .inl (fun _ => (0 : Int32)))) :: (q35, .inl (cA 0, 132, .inl (fun _ => (0 : Int32)))) :: (q26, .inl (cA 0, 132, .inl (fun _ => (0 : Int32)))) :: (q17, .inl (cA 0, 132, .inl (fun _ => (0 : Int32)))) :: (q8, .inl (cA 0, 132, .inl (fun _ => (0 : Int32)))) :: (h0, .inr (6, [.int 0, .int 0, .int 0, .int 0, .ref q8, .ref q17, .ref q26, .ref q35, .ref q44, .null, .null, .null, .null])) :: wr) H := hP
  have hD : va_D A ((q53, .inl (cA 0, 144, .inl (fun _ => (0 : Int32)))) :: (q44, .inl (cA 0, 132, .inl (fun _ => (0 : Int32)))) :: (q35, .inl (cA 0, 132, .inl (fun _ => (0 : Int32)))) :: (q26, .inl (cA 0, 132, .inl (fun _ => (0 : Int32)))) :: (q17, .inl (cA 0, 132, .inl (fun _ => (0 : Int32)))) :: (q8, .inl (cA 0, 132, .inl (fun _ => (0 : Int32)))) :: (h0, .inr (6, [.int 0, .int 0, .int 0, .int 0, .ref q8, .ref q17, .ref q26, .ref q35, .ref q44, .null, .null, .null, .null])) :: wr) := hD
  refine W.widen (k := 6) (n := 804) (by omega) (by omega) ?_
  refine va_putF (D := D) (ci := 6) (v := .ref q53) (ty := .array .int) (C := RX6) (T := TX6) (N := 13) hx hb hts hiX6 tyX6 tyX6_ok nmX6 hown hK hP hD hS 6 rfl rfl 9 (by decide) (hts (.fieldLink RX6 27 "ArcGuesser$Net" "pairByNodes" "[I") (List.mem_of_getElem? (i := 10) rfl)) (fun _ h9 => h9) rfl hin rfl (by decide +kernel) rfl rfl (Nat.le_of_ble_eq_true rfl) dX6_init_55 (fun H locs hP hD hS => ?_)
  have hP : va_P D vwCl ((q53, .inl (cA 0, 144, .inl (fun _ => (0 : Int32)))) :: (q44, .inl (cA 0, 132, .inl (fun _ => (0 : Int32)))) :: (q35, .inl (cA 0, 132, .inl (fun _ => (0 : Int32)))) :: (q26, .inl (cA 0, 132, .inl (fun _ => (0 : Int32)))) :: (q17, .inl (cA 0, 132, .inl (fun _ => (0 : Int32)))) :: (q8, .inl (cA 0, 132, .inl (fun _ => (0 : Int32)))) :: (h0, .inr (6, [.int 0, .int 0, .int 0, .int 0, .ref q8, .ref q17, .ref q26, .ref q35, .ref q44, .ref q53, .null, .null, .null])) :: wr) H := hP
  have hD : va_D A ((q53, .inl (cA 0, 144, .inl (fun _ => (0 : Int32)))) :: (q44, .inl (cA 0, 132, .inl (fun _ => (0 : Int32)))) :: (q35, .inl (cA 0, 132, .inl (fun _ => (0 : Int32)))) :: (q26, .inl (cA 0, 132, .inl (fun _ => (0 : Int32)))) :: (q17, .inl (cA 0, 132, .inl (fun _ => (0 : Int32)))) :: (q8, .inl (cA 0, 132, .inl (fun _ => (0 : Int32)))) :: (h0, .inr (6, [.int 0, .int 0, .int 0, .int 0, .ref q8, .ref q17, .ref q26, .ref q35, .ref q44, .ref q53, .null, .null, .null])) :: wr) := hD
  refine lv_aload_n hx hb dX6_init_58 rfl (lv_at hl 0 rfl) ?_
  refine lv_bipush (v := (12 : Int32)) hx hb dX6_init_59 (by decide) ?_
  refine va_newaT (atype := .int) (ty := .int) (cA := cA 0) (N' := 12) (n := (12 : Int32)) (a0 := (12, .inl (fun _ => (0 : Int32)))) hx hb (hts (.arrayClass .int) (List.mem_of_getElem? (i := 4) rfl)) rfl hK hP hD hS hA 0 rfl ha_i (by decide +kernel) (by decide +kernel) (by decide +kernel) (by decide +kernel) (by decide +kernel) dX6_init_61 (fun q61 H hP hD hS => ?_)
  have hP : va_P D vwCl ((q61, .inl (cA 0, 12, .inl (fun _ => (0 : Int32)))) :: (q53, .inl (cA 0, 144, .inl (fun _ => (0 : Int32)))) :: (q44, .inl (cA 0, 132, .inl (fun _ => (0 : Int32)))) :: (q35, .inl (cA 0, 132, .inl (fun _ => (0 : Int32)))) :: (q26, .inl (cA 0, 132, .inl (fun _ => (0 : Int32)))) :: (q17, .inl (cA 0, 132, .inl (fun _ => (0 : Int32)))) :: (q8, .inl (cA 0, 132, .inl (fun _ => (0 : Int32)))) :: (h0, .inr (6, [.int 0, .int 0, .int 0, .int 0, .ref q8, .ref q17, .ref q26, .ref q35, .ref q44, .ref q53, .null, .null, .null])) :: wr) H := hP
  have hD : va_D A ((q61, .inl (cA 0, 12, .inl (fun _ => (0 : Int32)))) :: (q53, .inl (cA 0, 144, .inl (fun _ => (0 : Int32)))) :: (q44, .inl (cA 0, 132, .inl (fun _ => (0 : Int32)))) :: (q35, .inl (cA 0, 132, .inl (fun _ => (0 : Int32)))) :: (q26, .inl (cA 0, 132, .inl (fun _ => (0 : Int32)))) :: (q17, .inl (cA 0, 132, .inl (fun _ => (0 : Int32)))) :: (q8, .inl (cA 0, 132, .inl (fun _ => (0 : Int32)))) :: (h0, .inr (6, [.int 0, .int 0, .int 0, .int 0, .ref q8, .ref q17, .ref q26, .ref q35, .ref q44, .ref q53, .null, .null, .null])) :: wr) := hD
  refine W.widen (k := 7) (n := 816) (by omega) (by omega) ?_
  refine va_putF (D := D) (ci := 6) (v := .ref q61) (ty := .array .int) (C := RX6) (T := TX6) (N := 13) hx hb hts hiX6 tyX6 tyX6_ok nmX6 hown hK hP hD hS 7 rfl rfl 10 (by decide) (hts (.fieldLink RX6 30 "ArcGuesser$Net" "groups" "[I") (List.mem_of_getElem? (i := 11) rfl)) (fun _ h9 => h9) rfl hin rfl (by decide +kernel) rfl rfl (Nat.le_of_ble_eq_true rfl) dX6_init_63 (fun H locs hP hD hS => ?_)
  have hP : va_P D vwCl ((q61, .inl (cA 0, 12, .inl (fun _ => (0 : Int32)))) :: (q53, .inl (cA 0, 144, .inl (fun _ => (0 : Int32)))) :: (q44, .inl (cA 0, 132, .inl (fun _ => (0 : Int32)))) :: (q35, .inl (cA 0, 132, .inl (fun _ => (0 : Int32)))) :: (q26, .inl (cA 0, 132, .inl (fun _ => (0 : Int32)))) :: (q17, .inl (cA 0, 132, .inl (fun _ => (0 : Int32)))) :: (q8, .inl (cA 0, 132, .inl (fun _ => (0 : Int32)))) :: (h0, .inr (6, [.int 0, .int 0, .int 0, .int 0, .ref q8, .ref q17, .ref q26, .ref q35, .ref q44, .ref q53, .ref q61, .null, .null])) :: wr) H := hP
  have hD : va_D A ((q61, .inl (cA 0, 12, .inl (fun _ => (0 : Int32)))) :: (q53, .inl (cA 0, 144, .inl (fun _ => (0 : Int32)))) :: (q44, .inl (cA 0, 132, .inl (fun _ => (0 : Int32)))) :: (q35, .inl (cA 0, 132, .inl (fun _ => (0 : Int32)))) :: (q26, .inl (cA 0, 132, .inl (fun _ => (0 : Int32)))) :: (q17, .inl (cA 0, 132, .inl (fun _ => (0 : Int32)))) :: (q8, .inl (cA 0, 132, .inl (fun _ => (0 : Int32)))) :: (h0, .inr (6, [.int 0, .int 0, .int 0, .int 0, .ref q8, .ref q17, .ref q26, .ref q35, .ref q44, .ref q53, .ref q61, .null, .null])) :: wr) := hD
  refine lv_aload_n hx hb dX6_init_66 rfl (lv_at hl 0 rfl) ?_
  refine lv_bipush (v := (12 : Int32)) hx hb dX6_init_67 (by decide) ?_
  refine va_newaT (atype := .int) (ty := .int) (cA := cA 0) (N' := 12) (n := (12 : Int32)) (a0 := (12, .inl (fun _ => (0 : Int32)))) hx hb (hts (.arrayClass .int) (List.mem_of_getElem? (i := 4) rfl)) rfl hK hP hD hS hA 0 rfl ha_i (by decide +kernel) (by decide +kernel) (by decide +kernel) (by decide +kernel) (by decide +kernel) dX6_init_69 (fun q69 H hP hD hS => ?_)
  have hP : va_P D vwCl ((q69, .inl (cA 0, 12, .inl (fun _ => (0 : Int32)))) :: (q61, .inl (cA 0, 12, .inl (fun _ => (0 : Int32)))) :: (q53, .inl (cA 0, 144, .inl (fun _ => (0 : Int32)))) :: (q44, .inl (cA 0, 132, .inl (fun _ => (0 : Int32)))) :: (q35, .inl (cA 0, 132, .inl (fun _ => (0 : Int32)))) :: (q26, .inl (cA 0, 132, .inl (fun _ => (0 : Int32)))) :: (q17, .inl (cA 0, 132, .inl (fun _ => (0 : Int32)))) :: (q8, .inl (cA 0, 132, .inl (fun _ => (0 : Int32)))) :: (h0, .inr (6, [.int 0, .int 0, .int 0, .int 0, .ref q8, .ref q17, .ref q26, .ref q35, .ref q44, .ref q53, .ref q61, .null, .null])) :: wr) H := hP
  have hD : va_D A ((q69, .inl (cA 0, 12, .inl (fun _ => (0 : Int32)))) :: (q61, .inl (cA 0, 12, .inl (fun _ => (0 : Int32)))) :: (q53, .inl (cA 0, 144, .inl (fun _ => (0 : Int32)))) :: (q44, .inl (cA 0, 132, .inl (fun _ => (0 : Int32)))) :: (q35, .inl (cA 0, 132, .inl (fun _ => (0 : Int32)))) :: (q26, .inl (cA 0, 132, .inl (fun _ => (0 : Int32)))) :: (q17, .inl (cA 0, 132, .inl (fun _ => (0 : Int32)))) :: (q8, .inl (cA 0, 132, .inl (fun _ => (0 : Int32)))) :: (h0, .inr (6, [.int 0, .int 0, .int 0, .int 0, .ref q8, .ref q17, .ref q26, .ref q35, .ref q44, .ref q53, .ref q61, .null, .null])) :: wr) := hD
  refine W.widen (k := 8) (n := 828) (by omega) (by omega) ?_
  refine va_putF (D := D) (ci := 6) (v := .ref q69) (ty := .array .int) (C := RX6) (T := TX6) (N := 13) hx hb hts hiX6 tyX6 tyX6_ok nmX6 hown hK hP hD hS 8 rfl rfl 11 (by decide) (hts (.fieldLink RX6 33 "ArcGuesser$Net" "out" "[I") (List.mem_of_getElem? (i := 12) rfl)) (fun _ h9 => h9) rfl hin rfl (by decide +kernel) rfl rfl (Nat.le_of_ble_eq_true rfl) dX6_init_71 (fun H locs hP hD hS => ?_)
  have hP : va_P D vwCl ((q69, .inl (cA 0, 12, .inl (fun _ => (0 : Int32)))) :: (q61, .inl (cA 0, 12, .inl (fun _ => (0 : Int32)))) :: (q53, .inl (cA 0, 144, .inl (fun _ => (0 : Int32)))) :: (q44, .inl (cA 0, 132, .inl (fun _ => (0 : Int32)))) :: (q35, .inl (cA 0, 132, .inl (fun _ => (0 : Int32)))) :: (q26, .inl (cA 0, 132, .inl (fun _ => (0 : Int32)))) :: (q17, .inl (cA 0, 132, .inl (fun _ => (0 : Int32)))) :: (q8, .inl (cA 0, 132, .inl (fun _ => (0 : Int32)))) :: (h0, .inr (6, [.int 0, .int 0, .int 0, .int 0, .ref q8, .ref q17, .ref q26, .ref q35, .ref q44, .ref q53, .ref q61, .ref q69, .null])) :: wr) H := hP
  have hD : va_D A ((q69, .inl (cA 0, 12, .inl (fun _ => (0 : Int32)))) :: (q61, .inl (cA 0, 12, .inl (fun _ => (0 : Int32)))) :: (q53, .inl (cA 0, 144, .inl (fun _ => (0 : Int32)))) :: (q44, .inl (cA 0, 132, .inl (fun _ => (0 : Int32)))) :: (q35, .inl (cA 0, 132, .inl (fun _ => (0 : Int32)))) :: (q26, .inl (cA 0, 132, .inl (fun _ => (0 : Int32)))) :: (q17, .inl (cA 0, 132, .inl (fun _ => (0 : Int32)))) :: (q8, .inl (cA 0, 132, .inl (fun _ => (0 : Int32)))) :: (h0, .inr (6, [.int 0, .int 0, .int 0, .int 0, .ref q8, .ref q17, .ref q26, .ref q35, .ref q44, .ref q53, .ref q61, .ref q69, .null])) :: wr) := hD
  refine lv_aload_n hx hb dX6_init_74 rfl (lv_at hl 0 rfl) ?_
  refine lv_bipush (v := (12 : Int32)) hx hb dX6_init_75 (by decide) ?_
  refine va_newaT (atype := .int) (ty := .int) (cA := cA 0) (N' := 12) (n := (12 : Int32)) (a0 := (12, .inl (fun _ => (0 : Int32)))) hx hb (hts (.arrayClass .int) (List.mem_of_getElem? (i := 4) rfl)) rfl hK hP hD hS hA 0 rfl ha_i (by decide +kernel) (by decide +kernel) (by decide +kernel) (by decide +kernel) (by decide +kernel) dX6_init_77 (fun q77 H hP hD hS => ?_)
  have hP : va_P D vwCl ((q77, .inl (cA 0, 12, .inl (fun _ => (0 : Int32)))) :: (q69, .inl (cA 0, 12, .inl (fun _ => (0 : Int32)))) :: (q61, .inl (cA 0, 12, .inl (fun _ => (0 : Int32)))) :: (q53, .inl (cA 0, 144, .inl (fun _ => (0 : Int32)))) :: (q44, .inl (cA 0, 132, .inl (fun _ => (0 : Int32)))) :: (q35, .inl (cA 0, 132, .inl (fun _ => (0 : Int32)))) :: (q26, .inl (cA 0, 132, .inl (fun _ => (0 : Int32)))) :: (q17, .inl (cA 0, 132, .inl (fun _ => (0 : Int32)))) :: (q8, .inl (cA 0, 132, .inl (fun _ => (0 : Int32)))) :: (h0, .inr (6, [.int 0, .int 0, .int 0, .int 0, .ref q8, .ref q17, .ref q26, .ref q35, .ref q44, .ref q53, .ref q61, .ref q69, .null])) :: wr) H := hP
  have hD : va_D A ((q77, .inl (cA 0, 12, .inl (fun _ => (0 : Int32)))) :: (q69, .inl (cA 0, 12, .inl (fun _ => (0 : Int32)))) :: (q61, .inl (cA 0, 12, .inl (fun _ => (0 : Int32)))) :: (q53, .inl (cA 0, 144, .inl (fun _ => (0 : Int32)))) :: (q44, .inl (cA 0, 132, .inl (fun _ => (0 : Int32)))) :: (q35, .inl (cA 0, 132, .inl (fun _ => (0 : Int32)))) :: (q26, .inl (cA 0, 132, .inl (fun _ => (0 : Int32)))) :: (q17, .inl (cA 0, 132, .inl (fun _ => (0 : Int32)))) :: (q8, .inl (cA 0, 132, .inl (fun _ => (0 : Int32)))) :: (h0, .inr (6, [.int 0, .int 0, .int 0, .int 0, .ref q8, .ref q17, .ref q26, .ref q35, .ref q44, .ref q53, .ref q61, .ref q69, .null])) :: wr) := hD
  refine W.widen (k := 9) (n := 840) (by omega) (by omega) ?_
  refine va_putF (D := D) (ci := 6) (v := .ref q77) (ty := .array .int) (C := RX6) (T := TX6) (N := 13) hx hb hts hiX6 tyX6 tyX6_ok nmX6 hown hK hP hD hS 9 rfl rfl 12 (by decide) (hts (.fieldLink RX6 36 "ArcGuesser$Net" "in" "[I") (List.mem_of_getElem? (i := 13) rfl)) (fun _ h9 => h9) rfl hin rfl (by decide +kernel) rfl rfl (Nat.le_of_ble_eq_true rfl) dX6_init_79 (fun H locs hP hD hS => ?_)
  have hP : va_P D vwCl ((q77, .inl (cA 0, 12, .inl (fun _ => (0 : Int32)))) :: (q69, .inl (cA 0, 12, .inl (fun _ => (0 : Int32)))) :: (q61, .inl (cA 0, 12, .inl (fun _ => (0 : Int32)))) :: (q53, .inl (cA 0, 144, .inl (fun _ => (0 : Int32)))) :: (q44, .inl (cA 0, 132, .inl (fun _ => (0 : Int32)))) :: (q35, .inl (cA 0, 132, .inl (fun _ => (0 : Int32)))) :: (q26, .inl (cA 0, 132, .inl (fun _ => (0 : Int32)))) :: (q17, .inl (cA 0, 132, .inl (fun _ => (0 : Int32)))) :: (q8, .inl (cA 0, 132, .inl (fun _ => (0 : Int32)))) :: (h0, .inr (6, [.int 0, .int 0, .int 0, .int 0, .ref q8, .ref q17, .ref q26, .ref q35, .ref q44, .ref q53, .ref q61, .ref q69, .ref q77])) :: wr) H := hP
  have hD : va_D A ((q77, .inl (cA 0, 12, .inl (fun _ => (0 : Int32)))) :: (q69, .inl (cA 0, 12, .inl (fun _ => (0 : Int32)))) :: (q61, .inl (cA 0, 12, .inl (fun _ => (0 : Int32)))) :: (q53, .inl (cA 0, 144, .inl (fun _ => (0 : Int32)))) :: (q44, .inl (cA 0, 132, .inl (fun _ => (0 : Int32)))) :: (q35, .inl (cA 0, 132, .inl (fun _ => (0 : Int32)))) :: (q26, .inl (cA 0, 132, .inl (fun _ => (0 : Int32)))) :: (q17, .inl (cA 0, 132, .inl (fun _ => (0 : Int32)))) :: (q8, .inl (cA 0, 132, .inl (fun _ => (0 : Int32)))) :: (h0, .inr (6, [.int 0, .int 0, .int 0, .int 0, .ref q8, .ref q17, .ref q26, .ref q35, .ref q44, .ref q53, .ref q61, .ref q69, .ref q77])) :: wr) := hD
  exact W.vret hx hb hr (fun t ht hW => ⟨⟨(fun k => match k with | 0 => q8 | 1 => q17 | 2 => q26 | 3 => q35 | 4 => q44 | 5 => q53 | 6 => q61 | 7 => q69 | 8 => q77 | _ => 0), rfl, trivial, by rw [ht]; exact hP, hD⟩, hS.F ht⟩) hS.2.2 dX6_init_82
