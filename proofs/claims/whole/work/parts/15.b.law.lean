/-! the frame rule for a world of two parts; the law's calls -/
theorem va_P.appL {D : va_G} {cl : List vw_C} {a b : va_W} {H : Heap} (h : va_P D cl (a ++ b) H) : va_P D cl a H := fun k q hk => h k q (by
  rw [List.getElem?_append_left (List.getElem?_eq_some_iff.mp hk).1]
  exact hk)
theorem va_D.appL {A : Nat → Prop} {a b : va_W} (h : va_D A (a ++ b)) : va_D A a := by
  have at' : ∀ (k : Nat) (q : Nat × va_E), a[k]? = some q → (a ++ b)[k]? = some q := fun k q hk => by
    rw [List.getElem?_append_left (List.getElem?_eq_some_iff.mp hk).1]
    exact hk
  exact ⟨fun i j p q hi hj hpq => h.1 i j p q (at' i p hi) (at' j q hj) hpq, fun k q hk => h.2 k q (at' k q hk)⟩
theorem w_join {A0 : Nat → Prop} {D : va_G} {cl : List vw_C} {w w2 w1 : va_W} {H H1 : Heap} (hP : va_P D cl (w ++ w2) H) (hD : va_D A0 (w ++ w2)) (hk : ∀ q : Nat, q < H.size → ¬ va_A w H.size q → H1[q]? = H[q]?) (hF : ∀ q, va_A w H.size q → A0 q) (hP1 : va_P D cl w1 H1) (hD1 : va_D (va_A w H.size) w1) : va_P D cl (w1 ++ w2) H1 ∧ va_D A0 (w1 ++ w2) := by
  have at2 : ∀ (k : Nat) (q : Nat × va_E), w2[k]? = some q → (w ++ w2)[w.length + k]? = some q := fun k q hq => by
    rw [List.getElem?_append_right (Nat.le_add_right _ _), Nat.add_sub_cancel_left]
    exact hq
  have at1 : ∀ (k : Nat) (q : Nat × va_E), w[k]? = some q → (w ++ w2)[k]? = some q := fun k q hk => by
    rw [List.getElem?_append_left (List.getElem?_eq_some_iff.mp hk).1]
    exact hk
  have apart : ∀ (k : Nat) (q : Nat × va_E), w2[k]? = some q → q.1 < H.size ∧ ¬ va_A w H.size q.1 := by
    intro k q hq
    have h2 := at2 k q hq
    have hl := (hP _ q h2).lt
    refine ⟨hl, fun h => ?_⟩
    rcases h with ⟨k2, e, h⟩ | h
    · have hlt := (List.getElem?_eq_some_iff.mp h).1
      have := hD.1 _ _ q (q.1, e) h2 (at1 k2 _ h) rfl
      omega
    · omega
  have hD2 : va_D A0 w2 := ⟨fun i j p q hi hj hpq => by
    have := hD.1 _ _ p q (at2 i p hi) (at2 j q hj) hpq
    omega, fun k q hk => hD.2 _ q (at2 k q hk)⟩
  refine ⟨va_P.app hP1 (fun k q hq => ?_), va_D.app (hD1.weaken (fun k q _ h => hF q.1 h)) hD2 (fun i j x y hx hy hxy => ?_)⟩
  · obtain ⟨g1, g2⟩ := apart k q hq
    exact (hP _ q (at2 k q hq)).kept (hk q.1 g1 g2)
  · exact (apart j y hy).2 (by rw [← hxy]; exact hD1.2 i x hx)
theorem va_P.turn {D : va_G} {cl : List vw_C} {a b : va_W} {H : Heap} (h : va_P D cl (a ++ b) H) : va_P D cl (b ++ a) H := va_P.swap (a := []) h
theorem va_D.turn {A : Nat → Prop} {a b : va_W} (h : va_D A (a ++ b)) : va_D A (b ++ a) := va_D.swap (a := []) h
theorem stW_passA {D : va_G} {tys : List (ClassId × FieldType)} {nw : List Cond} {wd : Sto → va_W} {A0 : Nat → Prop} {σ : Sto} {s : State} {H : Heap} {av : List Value} {w2 : va_W} (hN : ∀ w ∈ nw, va_Nw w s) (hK : va_K D vwCl tys s) (hP : va_P D vwCl (wd σ ++ w2) H) (hD : va_D A0 (wd σ ++ w2)) (hn : nwOK nw) :
    ∀ U : State, U.heap = H → s.WarmedH U.vm → va_Pc av (stW D tys nw wd (va_A (wd σ) H.size) σ) av.toArray U := fun U hU hW =>
  ⟨rfl, fun q hq => Or.inr (by rw [← hU]; exact hq), fun w hw => nw_warm hW (hn w hw) (hN w hw), by rw [hU]; exact hP.appL, va_K.moved hW.alike hK, hD.appL.self⟩
theorem stN_passA {D : va_G} {tys : List (ClassId × FieldType)} {nw : List Cond} {w : va_W} {A0 : Nat → Prop} {s : State} {H : Heap} {av : List Value} {w2 : va_W} (hN : ∀ w ∈ nw, va_Nw w s) (hO : va_AOA .long s) (hK : va_K D vwCl tys s) (hP : va_P D vwCl (w ++ w2) H) (hD : va_D A0 (w ++ w2)) (hn : nwOK nw) :
    ∀ U : State, U.heap = H → s.WarmedH U.vm → va_Pc av (stN D tys nw w (va_A w H.size)) av.toArray U := fun U hU hW =>
  ⟨rfl, fun q hq => Or.inr (by rw [← hU]; exact hq), fun w hw => nw_warm hW (hn w hw) (hN w hw), hO.moved hW.alike, by rw [hU]; exact hP.appL, va_K.moved hW.alike hK, hD.appL.self⟩
section WL
variable {p : Program} {l : Launch} {e : Env} {R : Room} {s : State} {m : MethodId} {args : Array Value} {below : List Frame} {meth : Method} {c : Code} {H : Heap} {locs : List Loc} {cells slots : Nat} {Q : State → Prop}
variable {cc : ByteArray} {pc : Nat} {ls : Array Slot} {rest st0 : List Value} {a : Array Value} {D : va_G} {A0 : Nat → Prop} {wd : Sto → va_W} {σ : Sto} {w2 : va_W}
theorem l_free {w : va_W} (hS : va_S A0 s.heap H locs) (hA0 : ∀ q, s.heap.size ≤ q → A0 q) (hD : va_D A0 (w ++ w2)) : ∀ q, va_A w H.size q → A0 q := by
  rintro q (⟨k, e, hk⟩ | hq)
  · exact hD.appL.2 k _ hk
  · exact hA0 q (Nat.le_trans hS.1 hq)
theorem l_calli {Post : Int32 → Sto → Prop} (hr : va_Run p l e R s m args below meth c H locs cells slots 0 0 (F0 m pc ls st0) rest (va_Qi Post (enW D wd (va_A (wd σ) H.size)) (va_A (wd σ) H.size) a) (va_A (wd σ) H.size)) (hS : va_S A0 s.heap H locs) (hA0 : ∀ q, s.heap.size ≤ q → A0 q) (hP : va_P D vwCl (wd σ ++ w2) H) (hD : va_D A0 (wd σ ++ w2))
    (kk : ∀ (r : Int32) (σ1 : Sto) (H1 : Heap) (locs1 : List Loc), Post r σ1 → va_P D vwCl (wd σ1 ++ w2) H1 → va_D A0 (wd σ1 ++ w2) → va_S A0 s.heap H1 locs1 → W p l e R s m args below meth c H1 locs1 cells slots Q (F0 m (pc + 3) ls (.int r :: rest))) : W p l e R s m args below meth c H locs cells slots Q (F0 m pc ls st0) :=
  va_calli hr hS (fun q _ h => l_free hS hA0 hD q h) (l_free hS hA0 hD) (fun r u t H1 locs1 ht hvm hw hB hz1 hk1 hS1 => by
    obtain ⟨a1, a2⟩ := w_join hP hD hk1 (l_free hS hA0 hD) (by rw [← ht]; exact hB.1) hB.2
    exact kk r u H1 locs1 hw a1 a2 hS1)
theorem l_calll {Post : Int64 → Sto → Prop} (hr : va_Run p l e R s m args below meth c H locs cells slots 0 0 (F0 m pc ls st0) rest (va_Ql Post (enW D wd (va_A (wd σ) H.size)) (va_A (wd σ) H.size) a) (va_A (wd σ) H.size)) (hS : va_S A0 s.heap H locs) (hA0 : ∀ q, s.heap.size ≤ q → A0 q) (hP : va_P D vwCl (wd σ ++ w2) H) (hD : va_D A0 (wd σ ++ w2))
    (kk : ∀ (r : Int64) (σ1 : Sto) (H1 : Heap) (locs1 : List Loc), Post r σ1 → va_P D vwCl (wd σ1 ++ w2) H1 → va_D A0 (wd σ1 ++ w2) → va_S A0 s.heap H1 locs1 → W p l e R s m args below meth c H1 locs1 cells slots Q (F0 m (pc + 3) ls (.long r :: rest))) : W p l e R s m args below meth c H locs cells slots Q (F0 m pc ls st0) :=
  va_calll hr hS (fun q _ h => l_free hS hA0 hD q h) (l_free hS hA0 hD) (fun r u t H1 locs1 ht hvm hw hB hz1 hk1 hS1 => by
    obtain ⟨a1, a2⟩ := w_join hP hD hk1 (l_free hS hA0 hD) (by rw [← ht]; exact hB.1) hB.2
    exact kk r u H1 locs1 hw a1 a2 hS1)
theorem l_calln {S : Type} {post : S → Prop} {wn : S → va_W} {w : va_W} {mc ms : Nat} (hr : va_Run p l e R s m args below meth c H locs cells slots mc ms (F0 m pc ls st0) rest (va_Qv post (fun u t => va_P D vwCl (wn u) t.heap ∧ va_D (va_A w H.size) (wn u)) (va_A w H.size) a) (va_A w H.size)) (hS : va_S A0 s.heap H locs) (hA0 : ∀ q, s.heap.size ≤ q → A0 q) (hP : va_P D vwCl (w ++ w2) H) (hD : va_D A0 (w ++ w2))
    (kk : ∀ (u : S) (H1 : Heap) (locs1 : List Loc), post u → va_P D vwCl (wn u ++ w2) H1 → va_D A0 (wn u ++ w2) → va_S A0 s.heap H1 locs1 → W p l e R s m args below meth c H1 locs1 (cells + mc) (slots + ms) Q (F0 m (pc + 3) ls rest)) : W p l e R s m args below meth c H locs cells slots Q (F0 m pc ls st0) :=
  va_callv hr hS (fun q _ h => l_free hS hA0 hD q h) (l_free hS hA0 hD) (fun u t H1 locs1 ht hvm hw hB hz1 hk1 hS1 => by
    obtain ⟨a1, a2⟩ := w_join hP hD hk1 (l_free hS hA0 hD) (by rw [← ht]; exact hB.1) hB.2
    exact kk u H1 locs1 hw a1 a2 hS1)
end WL
/-- what holds all the time in the law -/
def LCx (p : Program) (s : State) (m : MethodId) (c : Code) (b L : Nat) (xs : Nat → Int32) (D : va_G) (cA cB : Nat → ClassId) : Prop := p.tables.exec = Jvm.exec ∧ c.code = cL_law ∧ c.maxLocals = 4 ∧ s.vm.findClass RL = some m.cls ∧ (∀ w ∈ wsL_law, w.before #[Value.ref b] s = true) ∧ (∀ w ∈ nwX, va_Nw w s) ∧ va_K D vwCl (tyX cA) s ∧ va_K D vwCl (tyM cB) s ∧ va_X b L xs s s.heap ∧ b < s.heap.size ∧ L ≤ 2048
/-- the law stands at pc with place i, class and reference showing one state -/
def LG (p : Program) (l : Launch) (e : Env) (s : State) (m : MethodId) (below : List Frame) (meth : Method) (c : Code) (b : Nat) (D : va_G) (cA cB : Nat → ClassId) (ad bd : Nat → Nat) (pc i : Nat) : Prop := ∀ (g : GS) (σ τ : Sto) (H : Heap) (locs : List Loc) (ls : Array Slot), XI σ g → MI τ g → va_P D vwCl (wX ad cA σ ++ wM bd cB τ) H → va_D (fun q : Nat => s.heap.size ≤ q) (wX ad cA σ ++ wM bd cB τ) → va_S (fun q : Nat => s.heap.size ≤ q) s.heap H locs → lv_has ls 4 [(0, .ref b), (1, .ref (ad 0)), (2, .ref (bd 0)), (3, .int (nI i))] → W p l e room_1 s m #[Value.ref b] below meth c H locs 50 6582 (lw_Z below #[Value.ref b] s) (F0 m pc ls [])
theorem l_in {i k L : Nat} (hL : L ≤ 2048) (hi : i + 4 ≤ L) (hk : k < 4) : vp_in (nI i + nI k) L := by
  rw [nI_add]
  exact vp_in_nI (by omega) (by omega)
theorem l_in0 {i L : Nat} (hL : L ≤ 2048) (hi : i + 4 ≤ L) : vp_in (nI i) L := vp_in_nI (by omega) (by omega)
