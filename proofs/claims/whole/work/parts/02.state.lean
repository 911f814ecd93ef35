/-! the store: ints and longs by cell and place; the worlds of the class (X) and of the reference (M) as functions of a store -/
abbrev Sto : Type := (Nat → Nat → Int32) × (Nat → Nat → Int64)
def sI (σ : Sto) (k j : Nat) (v : Int32) : Sto := (fun a => if a = k then (fun b => if b = j then v else σ.1 a b) else σ.1 a, σ.2)
def sJ (σ : Sto) (k j : Nat) (v : Int64) : Sto := (σ.1, fun a => if a = k then (fun b => if b = j then v else σ.2 a b) else σ.2 a)
def fillS (σ : Sto) (k n : Nat) (v : Int32) : Sto := (fun a => if a = k then (fun b => if b < n then v else σ.1 a b) else σ.1 a, σ.2)
def cpyS (σ : Sto) (src dst : Nat) (n : Nat) : Sto := (fun a => if a = dst then va_cpy (σ.1 src) (σ.1 dst) (0 : Int32).toNatClampNeg (0 : Int32).toNatClampNeg n else σ.1 a, σ.2)
def fill_wp (σ : Sto) (k n : Nat) (v : Int32) (Post : Sto → Prop) : Prop := Post (fillS σ k n v)
def wX (ad : Nat → Nat) (cA : Nat → ClassId) (σ : Sto) : va_W := [(ad 0, .inr (7, [.ref (ad 1), .ref (ad 11), .ref (ad 12), .ref (ad 14), .ref (ad 20), .ref (ad 28), .ref (ad 29)])),
  (ad 1, .inr (6, [.int (σ.1 1 0), .int (σ.1 1 1), .int (σ.1 1 2), .int (σ.1 1 3), .ref (ad 2), .ref (ad 3), .ref (ad 4), .ref (ad 5), .ref (ad 6), .ref (ad 7), .ref (ad 8), .ref (ad 9), .ref (ad 10)])),
  (ad 2, .inl (cA 0, 132, .inl (σ.1 2))),
  (ad 3, .inl (cA 0, 132, .inl (σ.1 3))),
  (ad 4, .inl (cA 0, 132, .inl (σ.1 4))),
  (ad 5, .inl (cA 0, 132, .inl (σ.1 5))),
  (ad 6, .inl (cA 0, 132, .inl (σ.1 6))),
  (ad 7, .inl (cA 0, 144, .inl (σ.1 7))),
  (ad 8, .inl (cA 0, 12, .inl (σ.1 8))),
  (ad 9, .inl (cA 0, 12, .inl (σ.1 9))),
  (ad 10, .inl (cA 0, 12, .inl (σ.1 10))),
  (ad 11, .inr (4, [.ref (ad 1), .int (σ.1 11 1), .int (σ.1 11 2), .int (σ.1 11 3)])),
  (ad 12, .inr (5, [.ref (ad 11), .ref (ad 13)])),
  (ad 13, .inl (cA 0, 11, .inl (σ.1 13))),
  (ad 14, .inr (1, [.ref (ad 1), .int (σ.1 14 1), .int (σ.1 14 2), .int (σ.1 14 3), .ref (ad 15), .ref (ad 16), .ref (ad 17), .ref (ad 18), .ref (ad 19)])),
  (ad 15, .inl (cA 0, 132, .inl (σ.1 15))),
  (ad 16, .inl (cA 1, 132, .inr (.inl (σ.2 16)))),
  (ad 17, .inl (cA 0, 132, .inl (σ.1 17))),
  (ad 18, .inl (cA 0, 132, .inl (σ.1 18))),
  (ad 19, .inl (cA 0, 132, .inl (σ.1 19))),
  (ad 20, .inr (3, [.int (σ.1 20 0), .ref (ad 21), .ref (ad 22), .ref (ad 23), .ref (ad 24)])),
  (ad 21, .inl (cA 0, 3, .inl (σ.1 21))),
  (ad 22, .inl (cA 0, 3, .inl (σ.1 22))),
  (ad 23, .inl (cA 0, 3, .inl (σ.1 23))),
  (ad 24, .inl (cA 2, 3, .inr (.inr (.inr (.inr (fun i => if i = 0 then some (ad 25) else if i = 1 then some (ad 26) else if i = 2 then some (ad 27) else none)))))),
  (ad 25, .inl (cA 1, 132, .inr (.inl (σ.2 25)))),
  (ad 26, .inl (cA 1, 132, .inr (.inl (σ.2 26)))),
  (ad 27, .inl (cA 1, 132, .inr (.inl (σ.2 27)))),
  (ad 28, .inr (2, [.int (σ.1 28 0)])),
  (ad 29, .inr (0, [.long (σ.2 29 0), .long (σ.2 29 1)]))]
def wM (ad : Nat → Nat) (cA : Nat → ClassId) (σ : Sto) : va_W := [(ad 0, .inr (8, [.int (σ.1 0 0), .int (σ.1 0 1), .ref (ad 1), .ref (ad 2), .ref (ad 3), .ref (ad 4), .ref (ad 5), .int (σ.1 0 7), .ref (ad 6), .ref (ad 7), .int (σ.1 0 10), .int (σ.1 0 11), .int (σ.1 0 12), .ref (ad 8), .ref (ad 9), .ref (ad 10), .long (σ.2 0 16), .long (σ.2 0 17), .int (σ.1 0 18), .long (σ.2 0 19), .long (σ.2 0 20), .ref (ad 11), .ref (ad 12), .ref (ad 13), .ref (ad 14), .ref (ad 15), .ref (ad 16), .ref (ad 17), .int (σ.1 0 28), .int (σ.1 0 29), .ref (ad 18), .ref (ad 19)])),
  (ad 1, .inl (cA 0, 144, .inl (σ.1 1))),
  (ad 2, .inl (cA 0, 132, .inl (σ.1 2))),
  (ad 3, .inl (cA 0, 132, .inl (σ.1 3))),
  (ad 4, .inl (cA 0, 132, .inl (σ.1 4))),
  (ad 5, .inl (cA 2, 132, .inl (σ.1 5))),
  (ad 6, .inl (cA 0, 12, .inl (σ.1 6))),
  (ad 7, .inl (cA 0, 11, .inl (σ.1 7))),
  (ad 8, .inl (cA 1, 1584, .inr (.inl (σ.2 8)))),
  (ad 9, .inl (cA 1, 1584, .inr (.inl (σ.2 9)))),
  (ad 10, .inl (cA 2, 11, .inl (σ.1 10))),
  (ad 11, .inl (cA 2, 12, .inl (σ.1 11))),
  (ad 12, .inl (cA 2, 12, .inl (σ.1 12))),
  (ad 13, .inl (cA 0, 132, .inl (σ.1 13))),
  (ad 14, .inl (cA 1, 144, .inr (.inl (σ.2 14)))),
  (ad 15, .inl (cA 1, 144, .inr (.inl (σ.2 15)))),
  (ad 16, .inl (cA 0, 132, .inl (σ.1 16))),
  (ad 17, .inl (cA 0, 132, .inl (σ.1 17))),
  (ad 18, .inl (cA 0, 3, .inl (σ.1 18))),
  (ad 19, .inl (cA 0, 3, .inl (σ.1 19)))]
abbrev tyX (cA : Nat → ClassId) : List (ClassId × FieldType) := [(cA 0, .int), (cA 1, .long), (cA 2, .array .long)]
abbrev tyM (cA : Nat → ClassId) : List (ClassId × FieldType) := [(cA 0, .int), (cA 1, .long), (cA 2, .boolean)]
def nwX : List Cond := [.fieldLinkNest RX7 70 "ArcGuesser$Net" "pairTotal" "I" "ArcGuesser",
  .fieldLinkNest RX7 78 "ArcGuesser$Net" "states" "[I" "ArcGuesser",
  .fieldLinkNest RX7 85 "ArcGuesser$Net" "arcTotal" "I" "ArcGuesser",
  .fieldLinkNest RX7 92 "ArcGuesser$Net" "groups" "[I" "ArcGuesser",
  .fieldLinkNest RX7 99 "ArcGuesser$Net" "arcPairs" "[I" "ArcGuesser",
  .fieldLinkNest RX7 102 "ArcGuesser$Net" "times" "[I" "ArcGuesser",
  .fieldLinkNest RX7 116 "ArcGuesser$Net" "nodes" "I" "ArcGuesser",
  .fieldLinkNest RX7 129 "ArcGuesser$Mix" "weights" "[I" "ArcGuesser",
  .fieldLinkNest RX7 146 "ArcGuesser$Board" "above" "J" "ArcGuesser",
  .fieldLinkNest RX7 150 "ArcGuesser$Board" "below" "J" "ArcGuesser",
  .fieldLinkNest RX7 160 "ArcGuesser$Net" "from" "[I" "ArcGuesser",
  .fieldLinkNest RX7 163 "ArcGuesser$Net" "to" "[I" "ArcGuesser",
  .fieldLinkNest RX7 195 "ArcGuesser$Candidates" "foundTotal" "I" "ArcGuesser",
  .fieldLinkNest RX1 42 "ArcGuesser$Net" "pairTotal" "I" "ArcGuesser",
  .fieldLinkNest RX1 47 "ArcGuesser$Net" "states" "[I" "ArcGuesser",
  .fieldLinkNest RX3 40 "ArcGuesser$Candidates" "total" "I" "ArcGuesser",
  .fieldLinkNest RX3 45 "ArcGuesser$Candidates" "pairs" "[I" "ArcGuesser",
  .fieldLinkNest RX3 81 "ArcGuesser$Candidates" "mixes" "[J" "ArcGuesser",
  .fieldLinkNest RX4 25 "ArcGuesser$Net" "from" "[I" "ArcGuesser",
  .fieldLinkNest RX4 31 "ArcGuesser$Net" "to" "[I" "ArcGuesser",
  .fieldLinkNest RX4 34 "ArcGuesser$Net" "out" "[I" "ArcGuesser",
  .fieldLinkNest RX4 56 "ArcGuesser$Net" "in" "[I" "ArcGuesser",
  .fieldLinkNest RX4 76 "ArcGuesser$Net" "groups" "[I" "ArcGuesser",
  .fieldLinkNest RX4 90 "ArcGuesser$Net" "nodes" "I" "ArcGuesser",
  .methodLinkNest RX7 11 yX6_init "ArcGuesser",
  .methodLinkNest RX7 18 yX4_init "ArcGuesser",
  .methodLinkNest RX7 27 yX5_init "ArcGuesser",
  .methodLinkNest RX7 36 yX1_init "ArcGuesser",
  .methodLinkNest RX7 43 yX3_init "ArcGuesser",
  .methodLinkNest RX7 50 yX2_init "ArcGuesser",
  .methodLinkNest RX7 57 yX0_init "ArcGuesser",
  .methodLinkNest RX7 74 yX6_pairFor "ArcGuesser",
  .methodLinkNest RX7 82 yX6_addArc "ArcGuesser",
  .methodLinkNest RX7 88 yX6_isNode "ArcGuesser",
  .methodLinkNest RX7 95 yX6_setHidden "ArcGuesser",
  .methodLinkNest RX7 105 yX6_hiddenArcs "ArcGuesser",
  .methodLinkNest RX7 109 yX2_startFrom "ArcGuesser",
  .methodLinkNest RX7 113 yX2_next "ArcGuesser",
  .methodLinkNest RX7 119 yX6_candidateTotal "ArcGuesser",
  .methodLinkNest RX7 122 yX4_setPaths "ArcGuesser",
  .methodLinkNest RX7 132 yX5_mixOf "ArcGuesser",
  .methodLinkNest RX7 136 yX4_partsOf "ArcGuesser",
  .methodLinkNest RX7 142 yX0_show "ArcGuesser",
  .methodLinkNest RX7 156 yX1_pairAtPlace "ArcGuesser",
  .methodLinkNest RX7 166 yX1_placeOfPair "ArcGuesser",
  .methodLinkNest RX7 169 yX1_foundInFirst "ArcGuesser",
  .methodLinkNest RX7 172 yX1_gather "ArcGuesser",
  .methodLinkNest RX7 175 yX1_canBeJudged "ArcGuesser",
  .methodLinkNest RX7 179 yX1_mixBy "ArcGuesser",
  .methodLinkNest RX7 183 yX1_halvesWon "ArcGuesser",
  .methodLinkNest RX7 186 yX1_halvesInAll "ArcGuesser",
  .methodLinkNest RX7 189 yX1_halvesWonByDraws "ArcGuesser",
  .methodLinkNest RX7 198 yX3_canLearn "ArcGuesser",
  .methodLinkNest RX7 201 yX3_choose "ArcGuesser",
  .methodLinkNest RX7 204 yX3_measureAll "ArcGuesser",
  .methodLinkNest RX7 208 yX3_findBest "ArcGuesser",
  .methodLinkNest RX7 212 yX3_handOver "ArcGuesser",
  .methodLinkNest RX7 216 yX6_lay "ArcGuesser",
  .methodLinkNest RX7 219 yX5_reset "ArcGuesser",
  .methodLinkNest RX7 222 yX1_putInOrder "ArcGuesser",
  .methodLinkNest RX1 54 yX5_mixOf "ArcGuesser",
  .methodLinkNest RX1 68 yX2_next "ArcGuesser",
  .methodLinkNest RX3 32 yX7_isWithin "ArcGuesser",
  .methodLinkNest RX3 48 yX4_partsOf "ArcGuesser",
  .methodLinkNest RX3 65 yX1_halvesWon "ArcGuesser",
  .methodLinkNest RX4 37 yX6_comparedWith "ArcGuesser",
  .methodLinkNest RX4 93 yX6_has "ArcGuesser",
  .methodLinkNest RX4 97 yX6_leadsFrom "ArcGuesser",
  .methodLinkNest RX4 100 yX6_membersOf "ArcGuesser",
  .methodLinkNest RX5 25 yX4_partsOf "ArcGuesser"]
def nwM : List Cond := []
def isNest : Cond → Bool
  | .fieldLinkNest _ _ _ _ _ _ => true
  | .methodLinkNest _ _ _ _ => true
  | _ => false
theorem nw_warm {s U : State} (hW : s.WarmedH U.vm) {w : Cond} (h : isNest w = true) (hz : va_Nw w s) : va_Nw w U := by
  unfold isNest at h
  split at h
  · exact va_Nw.warmF hW hz
  · exact va_Nw.warmM hW hz
  · cases h
theorem nw_onTables {w : Cond} (h : isNest w = true) : w.onTables = true := by
  unfold isNest at h
  split at h
  · rfl
  · rfl
  · cases h
def nwOK (nw : List Cond) : Prop := ∀ w ∈ nw, isNest w = true
theorem nwX_ok : nwOK nwX := fun w h => List.all_eq_true.mp (by decide +kernel : nwX.all isNest = true) w h
theorem nwM_ok : nwOK nwM := fun w h => by cases h
/-- what a method of either side finds: the world of the store, what it may write, the tables' words -/
def stW (D : va_G) (tys : List (ClassId × FieldType)) (nw : List Cond) (wd : Sto → va_W) (A : Nat → Prop) (σ : Sto) (U : State) : Prop :=
  (∀ q, U.heap.size ≤ q → A q) ∧ (∀ w ∈ nw, va_Nw w U) ∧ va_P D vwCl (wd σ) U.heap ∧ va_K D vwCl tys U ∧ va_D A (wd σ)
/-- what it leaves -/
def enW (D : va_G) (wd : Sto → va_W) (A : Nat → Prop) (σ : Sto) (t : State) : Prop := va_P D vwCl (wd σ) t.heap ∧ va_D A (wd σ)
theorem stW_blind {D : va_G} {tys : List (ClassId × FieldType)} {nw : List Cond} {wd : Sto → va_W} {A : Nat → Prop} {σ : Sto} {av : List Value} (hn : nwOK nw) : FrameBlind (va_Pc av (stW D tys nw wd A σ)) := by
  intro a U g mk h
  obtain ⟨h0, h1, h2, h3, h4, h5⟩ := h
  exact ⟨h0, h1, fun w hw => va_Nw.same (u := U) (U := U.calling g mk a) (nw_onTables (hn w hw)) rfl (h2 w hw), h3, va_K.moved (u := U) (U := U.calling g mk a) (Vm.Alike.refl U.vm) h4, h5⟩
theorem stW_pass {D : va_G} {tys : List (ClassId × FieldType)} {nw : List Cond} {wd : Sto → va_W} {A : Nat → Prop} {σ : Sto} {s : State} {H : Heap} {locs : List Loc} {av : List Value} (hA : ∀ q, s.heap.size ≤ q → A q) (hS : va_S A s.heap H locs) (hN : ∀ w ∈ nw, va_Nw w s) (hK : va_K D vwCl tys s) (hP : va_P D vwCl (wd σ) H) (hD : va_D A (wd σ)) (hn : nwOK nw) :
    ∀ U : State, U.heap = H → s.WarmedH U.vm → va_Pc av (stW D tys nw wd A σ) av.toArray U := fun U hU hW =>
  ⟨rfl, fun q hq => hA q (Nat.le_trans hS.1 (by rw [← hU]; exact hq)), fun w hw => nw_warm hW (hn w hw) (hN w hw), by rw [hU]; exact hP, va_K.moved hW.alike hK, hD⟩
section WC
variable {p : Program} {l : Launch} {e : Env} {R : Room} {s : State} {m : MethodId} {args : Array Value} {below : List Frame} {meth : Method} {c : Code} {H : Heap} {locs : List Loc} {cells slots : Nat} {Q : State → Prop}
variable {cc : ByteArray} {pc : Nat} {ls : Array Slot} {rest st0 : List Value} {a : Array Value} {D : va_G} {wd : Sto → va_W} {A : Nat → Prop} {tys : List (ClassId × FieldType)} {ws : va_W} {H0 : Heap} {b : Nat}
theorem w_calli {Post : Int32 → Sto → Prop} (hr : va_Run p l e R s m args below meth c H locs cells slots 0 0 (F0 m pc ls st0) rest (va_Qi Post (enW D wd A) A a) A) (hS : va_S A s.heap H locs)
    (kk : ∀ (r : Int32) (σ : Sto) (H1 : Heap) (locs1 : List Loc), Post r σ → va_P D vwCl (wd σ) H1 → va_D A (wd σ) → va_S A s.heap H1 locs1 → W p l e R s m args below meth c H1 locs1 cells slots Q (F0 m (pc + 3) ls (.int r :: rest))) : W p l e R s m args below meth c H locs cells slots Q (F0 m pc ls st0) :=
  va_calli hr hS (fun _ _ h => h) (fun _ h => h) (fun r u t H1 locs1 ht hvm hw hB hz1 hk1 hS => kk r u H1 locs1 hw (by rw [← ht]; exact hB.1) hB.2 hS)
theorem w_calll {Post : Int64 → Sto → Prop} (hr : va_Run p l e R s m args below meth c H locs cells slots 0 0 (F0 m pc ls st0) rest (va_Ql Post (enW D wd A) A a) A) (hS : va_S A s.heap H locs)
    (kk : ∀ (r : Int64) (σ : Sto) (H1 : Heap) (locs1 : List Loc), Post r σ → va_P D vwCl (wd σ) H1 → va_D A (wd σ) → va_S A s.heap H1 locs1 → W p l e R s m args below meth c H1 locs1 cells slots Q (F0 m (pc + 3) ls (.long r :: rest))) : W p l e R s m args below meth c H locs cells slots Q (F0 m pc ls st0) :=
  va_calll hr hS (fun _ _ h => h) (fun _ h => h) (fun r u t H1 locs1 ht hvm hw hB hz1 hk1 hS => kk r u H1 locs1 hw (by rw [← ht]; exact hB.1) hB.2 hS)
theorem w_callv {Post : Sto → Prop} (hr : va_Run p l e R s m args below meth c H locs cells slots 0 0 (F0 m pc ls st0) rest (va_Qv Post (enW D wd A) A a) A) (hS : va_S A s.heap H locs)
    (kk : ∀ (σ : Sto) (H1 : Heap) (locs1 : List Loc), Post σ → va_P D vwCl (wd σ) H1 → va_D A (wd σ) → va_S A s.heap H1 locs1 → W p l e R s m args below meth c H1 locs1 cells slots Q (F0 m (pc + 3) ls rest)) : W p l e R s m args below meth c H locs cells slots Q (F0 m pc ls st0) :=
  va_callv hr hS (fun _ _ h => h) (fun _ h => h) (fun u t H1 locs1 ht hvm hw hB hz1 hk1 hS => kk u H1 locs1 hw (by rw [← ht]; exact hB.1) hB.2 hS)
/-- a row of an array of arrays, at a place that is known -/
theorem va_aldM {cl : List vw_C} (hexec : p.tables.exec = Jvm.exec) (hb : c.code = cc) (hK : va_K D cl tys s) (hP : va_P D cl ws H) (q0 t0 : Nat) {r : Nat} {cA : ClassId} {ty : FieldType} {n : Nat} {f : Nat → Option Nat} (ha : ws[q0]? = some (r, .inl (cA, n, .inr (.inr (.inr (.inr f)))))) (ht : tys[t0]? = some (cA, .array ty)) {i : Int32} (hin : vp_in i n) (j : Nat) (hj : i.toNatClampNeg = j) (hf : f j = some b) (hdg : decode cc pc = .ok (.aaload, 1))
    (kk : W p l e R s m args below meth c H locs cells slots Q (F0 m (pc + 1) ls (.ref b :: rest))) : W p l e R s m args below meth c H locs cells slots Q (F0 m pc ls (.int i :: .ref r :: rest)) := by
  have hlt : i.toNatClampNeg < n := Nat.not_le.mp fun q => hin (Or.inr q)
  have e9 : va_rf (f i.toNatClampNeg) = .ref b := by rw [hj, hf]; rfl
  exact W.aald (v := .ref b) (ty := .array ty) hexec hb (hP q0 _ ha) ((hK.2 t0 _ ht).1 n (fun j => va_rf (f j))) rfl (fun q => by cases q) (by show ¬ (i < 0 ∨ (arrV _ _ _).slots.size ≤ _); rw [arrV_size]; exact hin) (by show (arrV _ _ _).slots[_]? = _; rw [arrV_read _ _ hlt, e9]) rfl rfl hdg kk
theorem in3 {i : Int32} (h : vp_in i 3) : i.toNatClampNeg = 0 ∨ i.toNatClampNeg = 1 ∨ i.toNatClampNeg = 2 := by
  have hlt : i.toNatClampNeg < 3 := Nat.not_le.mp fun q => h (Or.inr q)
  omega
end WC
theorem wXg0 {ad : Nat → Nat} {cA : Nat → ClassId} {σ : Sto} : (wX ad cA σ)[0]? = some (ad 0, .inr (7, [.ref (ad 1), .ref (ad 11), .ref (ad 12), .ref (ad 14), .ref (ad 20), .ref (ad 28), .ref (ad 29)])) := rfl
theorem wXg1 {ad : Nat → Nat} {cA : Nat → ClassId} {σ : Sto} : (wX ad cA σ)[1]? = some (ad 1, .inr (6, [.int (σ.1 1 0), .int (σ.1 1 1), .int (σ.1 1 2), .int (σ.1 1 3), .ref (ad 2), .ref (ad 3), .ref (ad 4), .ref (ad 5), .ref (ad 6), .ref (ad 7), .ref (ad 8), .ref (ad 9), .ref (ad 10)])) := rfl
theorem wXfP1_0 {D : va_G} {ad : Nat → Nat} {cA : Nat → ClassId} {σ : Sto} {H : Heap} {v : Int32} (h : va_P D vwCl ((wX ad cA σ).set 1 (ad 1, .inr (6, ([.int (σ.1 1 0), .int (σ.1 1 1), .int (σ.1 1 2), .int (σ.1 1 3), .ref (ad 2), .ref (ad 3), .ref (ad 4), .ref (ad 5), .ref (ad 6), .ref (ad 7), .ref (ad 8), .ref (ad 9), .ref (ad 10)] : List Value).set 0 (.int v)))) H) : va_P D vwCl (wX ad cA (sI σ 1 0 v)) H := h
theorem wXfD1_0 {ad : Nat → Nat} {cA : Nat → ClassId} {σ : Sto} {A : Nat → Prop} {v : Int32} (h : va_D A ((wX ad cA σ).set 1 (ad 1, .inr (6, ([.int (σ.1 1 0), .int (σ.1 1 1), .int (σ.1 1 2), .int (σ.1 1 3), .ref (ad 2), .ref (ad 3), .ref (ad 4), .ref (ad 5), .ref (ad 6), .ref (ad 7), .ref (ad 8), .ref (ad 9), .ref (ad 10)] : List Value).set 0 (.int v))))) : va_D A (wX ad cA (sI σ 1 0 v)) := h
theorem wXfP1_1 {D : va_G} {ad : Nat → Nat} {cA : Nat → ClassId} {σ : Sto} {H : Heap} {v : Int32} (h : va_P D vwCl ((wX ad cA σ).set 1 (ad 1, .inr (6, ([.int (σ.1 1 0), .int (σ.1 1 1), .int (σ.1 1 2), .int (σ.1 1 3), .ref (ad 2), .ref (ad 3), .ref (ad 4), .ref (ad 5), .ref (ad 6), .ref (ad 7), .ref (ad 8), .ref (ad 9), .ref (ad 10)] : List Value).set 1 (.int v)))) H) : va_P D vwCl (wX ad cA (sI σ 1 1 v)) H := h
theorem wXfD1_1 {ad : Nat → Nat} {cA : Nat → ClassId} {σ : Sto} {A : Nat → Prop} {v : Int32} (h : va_D A ((wX ad cA σ).set 1 (ad 1, .inr (6, ([.int (σ.1 1 0), .int (σ.1 1 1), .int (σ.1 1 2), .int (σ.1 1 3), .ref (ad 2), .ref (ad 3), .ref (ad 4), .ref (ad 5), .ref (ad 6), .ref (ad 7), .ref (ad 8), .ref (ad 9), .ref (ad 10)] : List Value).set 1 (.int v))))) : va_D A (wX ad cA (sI σ 1 1 v)) := h
theorem wXfP1_2 {D : va_G} {ad : Nat → Nat} {cA : Nat → ClassId} {σ : Sto} {H : Heap} {v : Int32} (h : va_P D vwCl ((wX ad cA σ).set 1 (ad 1, .inr (6, ([.int (σ.1 1 0), .int (σ.1 1 1), .int (σ.1 1 2), .int (σ.1 1 3), .ref (ad 2), .ref (ad 3), .ref (ad 4), .ref (ad 5), .ref (ad 6), .ref (ad 7), .ref (ad 8), .ref (ad 9), .ref (ad 10)] : List Value).set 2 (.int v)))) H) : va_P D vwCl (wX ad cA (sI σ 1 2 v)) H := h
theorem wXfD1_2 {ad : Nat → Nat} {cA : Nat → ClassId} {σ : Sto} {A : Nat → Prop} {v : Int32} (h : va_D A ((wX ad cA σ).set 1 (ad 1, .inr (6, ([.int (σ.1 1 0), .int (σ.1 1 1), .int (σ.1 1 2), .int (σ.1 1 3), .ref (ad 2), .ref (ad 3), .ref (ad 4), .ref (ad 5), .ref (ad 6), .ref (ad 7), .ref (ad 8), .ref (ad 9), .ref (ad 10)] : List Value).set 2 (.int v))))) : va_D A (wX ad cA (sI σ 1 2 v)) := h
theorem wXfP1_3 {D : va_G} {ad : Nat → Nat} {cA : Nat → ClassId} {σ : Sto} {H : Heap} {v : Int32} (h : va_P D vwCl ((wX ad cA σ).set 1 (ad 1, .inr (6, ([.int (σ.1 1 0), .int (σ.1 1 1), .int (σ.1 1 2), .int (σ.1 1 3), .ref (ad 2), .ref (ad 3), .ref (ad 4), .ref (ad 5), .ref (ad 6), .ref (ad 7), .ref (ad 8), .ref (ad 9), .ref (ad 10)] : List Value).set 3 (.int v)))) H) : va_P D vwCl (wX ad cA (sI σ 1 3 v)) H := h
theorem wXfD1_3 {ad : Nat → Nat} {cA : Nat → ClassId} {σ : Sto} {A : Nat → Prop} {v : Int32} (h : va_D A ((wX ad cA σ).set 1 (ad 1, .inr (6, ([.int (σ.1 1 0), .int (σ.1 1 1), .int (σ.1 1 2), .int (σ.1 1 3), .ref (ad 2), .ref (ad 3), .ref (ad 4), .ref (ad 5), .ref (ad 6), .ref (ad 7), .ref (ad 8), .ref (ad 9), .ref (ad 10)] : List Value).set 3 (.int v))))) : va_D A (wX ad cA (sI σ 1 3 v)) := h
theorem wXg2 {ad : Nat → Nat} {cA : Nat → ClassId} {σ : Sto} : (wX ad cA σ)[2]? = some (ad 2, .inl (cA 0, 132, .inl (σ.1 2))) := rfl
theorem wXsP2 {D : va_G} {ad : Nat → Nat} {cA : Nat → ClassId} {σ : Sto} {H : Heap} {i : Nat} {v : Int32} (h : va_P D vwCl ((wX ad cA σ).set 2 (ad 2, .inl (cA 0, 132, .inl (upd (σ.1 2) i v)))) H) : va_P D vwCl (wX ad cA (sI σ 2 i v)) H := h
theorem wXsD2 {ad : Nat → Nat} {cA : Nat → ClassId} {σ : Sto} {A : Nat → Prop} {i : Nat} {v : Int32} (h : va_D A ((wX ad cA σ).set 2 (ad 2, .inl (cA 0, 132, .inl (upd (σ.1 2) i v))))) : va_D A (wX ad cA (sI σ 2 i v)) := h
theorem wXg3 {ad : Nat → Nat} {cA : Nat → ClassId} {σ : Sto} : (wX ad cA σ)[3]? = some (ad 3, .inl (cA 0, 132, .inl (σ.1 3))) := rfl
theorem wXsP3 {D : va_G} {ad : Nat → Nat} {cA : Nat → ClassId} {σ : Sto} {H : Heap} {i : Nat} {v : Int32} (h : va_P D vwCl ((wX ad cA σ).set 3 (ad 3, .inl (cA 0, 132, .inl (upd (σ.1 3) i v)))) H) : va_P D vwCl (wX ad cA (sI σ 3 i v)) H := h
theorem wXsD3 {ad : Nat → Nat} {cA : Nat → ClassId} {σ : Sto} {A : Nat → Prop} {i : Nat} {v : Int32} (h : va_D A ((wX ad cA σ).set 3 (ad 3, .inl (cA 0, 132, .inl (upd (σ.1 3) i v))))) : va_D A (wX ad cA (sI σ 3 i v)) := h
theorem wXg4 {ad : Nat → Nat} {cA : Nat → ClassId} {σ : Sto} : (wX ad cA σ)[4]? = some (ad 4, .inl (cA 0, 132, .inl (σ.1 4))) := rfl
theorem wXsP4 {D : va_G} {ad : Nat → Nat} {cA : Nat → ClassId} {σ : Sto} {H : Heap} {i : Nat} {v : Int32} (h : va_P D vwCl ((wX ad cA σ).set 4 (ad 4, .inl (cA 0, 132, .inl (upd (σ.1 4) i v)))) H) : va_P D vwCl (wX ad cA (sI σ 4 i v)) H := h
theorem wXsD4 {ad : Nat → Nat} {cA : Nat → ClassId} {σ : Sto} {A : Nat → Prop} {i : Nat} {v : Int32} (h : va_D A ((wX ad cA σ).set 4 (ad 4, .inl (cA 0, 132, .inl (upd (σ.1 4) i v))))) : va_D A (wX ad cA (sI σ 4 i v)) := h
theorem wXg5 {ad : Nat → Nat} {cA : Nat → ClassId} {σ : Sto} : (wX ad cA σ)[5]? = some (ad 5, .inl (cA 0, 132, .inl (σ.1 5))) := rfl
theorem wXsP5 {D : va_G} {ad : Nat → Nat} {cA : Nat → ClassId} {σ : Sto} {H : Heap} {i : Nat} {v : Int32} (h : va_P D vwCl ((wX ad cA σ).set 5 (ad 5, .inl (cA 0, 132, .inl (upd (σ.1 5) i v)))) H) : va_P D vwCl (wX ad cA (sI σ 5 i v)) H := h
theorem wXsD5 {ad : Nat → Nat} {cA : Nat → ClassId} {σ : Sto} {A : Nat → Prop} {i : Nat} {v : Int32} (h : va_D A ((wX ad cA σ).set 5 (ad 5, .inl (cA 0, 132, .inl (upd (σ.1 5) i v))))) : va_D A (wX ad cA (sI σ 5 i v)) := h
theorem wXg6 {ad : Nat → Nat} {cA : Nat → ClassId} {σ : Sto} : (wX ad cA σ)[6]? = some (ad 6, .inl (cA 0, 132, .inl (σ.1 6))) := rfl
theorem wXsP6 {D : va_G} {ad : Nat → Nat} {cA : Nat → ClassId} {σ : Sto} {H : Heap} {i : Nat} {v : Int32} (h : va_P D vwCl ((wX ad cA σ).set 6 (ad 6, .inl (cA 0, 132, .inl (upd (σ.1 6) i v)))) H) : va_P D vwCl (wX ad cA (sI σ 6 i v)) H := h
theorem wXsD6 {ad : Nat → Nat} {cA : Nat → ClassId} {σ : Sto} {A : Nat → Prop} {i : Nat} {v : Int32} (h : va_D A ((wX ad cA σ).set 6 (ad 6, .inl (cA 0, 132, .inl (upd (σ.1 6) i v))))) : va_D A (wX ad cA (sI σ 6 i v)) := h
theorem wXg7 {ad : Nat → Nat} {cA : Nat → ClassId} {σ : Sto} : (wX ad cA σ)[7]? = some (ad 7, .inl (cA 0, 144, .inl (σ.1 7))) := rfl
theorem wXsP7 {D : va_G} {ad : Nat → Nat} {cA : Nat → ClassId} {σ : Sto} {H : Heap} {i : Nat} {v : Int32} (h : va_P D vwCl ((wX ad cA σ).set 7 (ad 7, .inl (cA 0, 144, .inl (upd (σ.1 7) i v)))) H) : va_P D vwCl (wX ad cA (sI σ 7 i v)) H := h
theorem wXsD7 {ad : Nat → Nat} {cA : Nat → ClassId} {σ : Sto} {A : Nat → Prop} {i : Nat} {v : Int32} (h : va_D A ((wX ad cA σ).set 7 (ad 7, .inl (cA 0, 144, .inl (upd (σ.1 7) i v))))) : va_D A (wX ad cA (sI σ 7 i v)) := h
theorem wXg8 {ad : Nat → Nat} {cA : Nat → ClassId} {σ : Sto} : (wX ad cA σ)[8]? = some (ad 8, .inl (cA 0, 12, .inl (σ.1 8))) := rfl
theorem wXsP8 {D : va_G} {ad : Nat → Nat} {cA : Nat → ClassId} {σ : Sto} {H : Heap} {i : Nat} {v : Int32} (h : va_P D vwCl ((wX ad cA σ).set 8 (ad 8, .inl (cA 0, 12, .inl (upd (σ.1 8) i v)))) H) : va_P D vwCl (wX ad cA (sI σ 8 i v)) H := h
theorem wXsD8 {ad : Nat → Nat} {cA : Nat → ClassId} {σ : Sto} {A : Nat → Prop} {i : Nat} {v : Int32} (h : va_D A ((wX ad cA σ).set 8 (ad 8, .inl (cA 0, 12, .inl (upd (σ.1 8) i v))))) : va_D A (wX ad cA (sI σ 8 i v)) := h
theorem wXg9 {ad : Nat → Nat} {cA : Nat → ClassId} {σ : Sto} : (wX ad cA σ)[9]? = some (ad 9, .inl (cA 0, 12, .inl (σ.1 9))) := rfl
theorem wXsP9 {D : va_G} {ad : Nat → Nat} {cA : Nat → ClassId} {σ : Sto} {H : Heap} {i : Nat} {v : Int32} (h : va_P D vwCl ((wX ad cA σ).set 9 (ad 9, .inl (cA 0, 12, .inl (upd (σ.1 9) i v)))) H) : va_P D vwCl (wX ad cA (sI σ 9 i v)) H := h
theorem wXsD9 {ad : Nat → Nat} {cA : Nat → ClassId} {σ : Sto} {A : Nat → Prop} {i : Nat} {v : Int32} (h : va_D A ((wX ad cA σ).set 9 (ad 9, .inl (cA 0, 12, .inl (upd (σ.1 9) i v))))) : va_D A (wX ad cA (sI σ 9 i v)) := h
theorem wXg10 {ad : Nat → Nat} {cA : Nat → ClassId} {σ : Sto} : (wX ad cA σ)[10]? = some (ad 10, .inl (cA 0, 12, .inl (σ.1 10))) := rfl
theorem wXsP10 {D : va_G} {ad : Nat → Nat} {cA : Nat → ClassId} {σ : Sto} {H : Heap} {i : Nat} {v : Int32} (h : va_P D vwCl ((wX ad cA σ).set 10 (ad 10, .inl (cA 0, 12, .inl (upd (σ.1 10) i v)))) H) : va_P D vwCl (wX ad cA (sI σ 10 i v)) H := h
theorem wXsD10 {ad : Nat → Nat} {cA : Nat → ClassId} {σ : Sto} {A : Nat → Prop} {i : Nat} {v : Int32} (h : va_D A ((wX ad cA σ).set 10 (ad 10, .inl (cA 0, 12, .inl (upd (σ.1 10) i v))))) : va_D A (wX ad cA (sI σ 10 i v)) := h
theorem wXg11 {ad : Nat → Nat} {cA : Nat → ClassId} {σ : Sto} : (wX ad cA σ)[11]? = some (ad 11, .inr (4, [.ref (ad 1), .int (σ.1 11 1), .int (σ.1 11 2), .int (σ.1 11 3)])) := rfl
theorem wXfP11_1 {D : va_G} {ad : Nat → Nat} {cA : Nat → ClassId} {σ : Sto} {H : Heap} {v : Int32} (h : va_P D vwCl ((wX ad cA σ).set 11 (ad 11, .inr (4, ([.ref (ad 1), .int (σ.1 11 1), .int (σ.1 11 2), .int (σ.1 11 3)] : List Value).set 1 (.int v)))) H) : va_P D vwCl (wX ad cA (sI σ 11 1 v)) H := h
theorem wXfD11_1 {ad : Nat → Nat} {cA : Nat → ClassId} {σ : Sto} {A : Nat → Prop} {v : Int32} (h : va_D A ((wX ad cA σ).set 11 (ad 11, .inr (4, ([.ref (ad 1), .int (σ.1 11 1), .int (σ.1 11 2), .int (σ.1 11 3)] : List Value).set 1 (.int v))))) : va_D A (wX ad cA (sI σ 11 1 v)) := h
theorem wXfP11_2 {D : va_G} {ad : Nat → Nat} {cA : Nat → ClassId} {σ : Sto} {H : Heap} {v : Int32} (h : va_P D vwCl ((wX ad cA σ).set 11 (ad 11, .inr (4, ([.ref (ad 1), .int (σ.1 11 1), .int (σ.1 11 2), .int (σ.1 11 3)] : List Value).set 2 (.int v)))) H) : va_P D vwCl (wX ad cA (sI σ 11 2 v)) H := h
theorem wXfD11_2 {ad : Nat → Nat} {cA : Nat → ClassId} {σ : Sto} {A : Nat → Prop} {v : Int32} (h : va_D A ((wX ad cA σ).set 11 (ad 11, .inr (4, ([.ref (ad 1), .int (σ.1 11 1), .int (σ.1 11 2), .int (σ.1 11 3)] : List Value).set 2 (.int v))))) : va_D A (wX ad cA (sI σ 11 2 v)) := h
theorem wXfP11_3 {D : va_G} {ad : Nat → Nat} {cA : Nat → ClassId} {σ : Sto} {H : Heap} {v : Int32} (h : va_P D vwCl ((wX ad cA σ).set 11 (ad 11, .inr (4, ([.ref (ad 1), .int (σ.1 11 1), .int (σ.1 11 2), .int (σ.1 11 3)] : List Value).set 3 (.int v)))) H) : va_P D vwCl (wX ad cA (sI σ 11 3 v)) H := h
theorem wXfD11_3 {ad : Nat → Nat} {cA : Nat → ClassId} {σ : Sto} {A : Nat → Prop} {v : Int32} (h : va_D A ((wX ad cA σ).set 11 (ad 11, .inr (4, ([.ref (ad 1), .int (σ.1 11 1), .int (σ.1 11 2), .int (σ.1 11 3)] : List Value).set 3 (.int v))))) : va_D A (wX ad cA (sI σ 11 3 v)) := h
theorem wXg12 {ad : Nat → Nat} {cA : Nat → ClassId} {σ : Sto} : (wX ad cA σ)[12]? = some (ad 12, .inr (5, [.ref (ad 11), .ref (ad 13)])) := rfl
theorem wXg13 {ad : Nat → Nat} {cA : Nat → ClassId} {σ : Sto} : (wX ad cA σ)[13]? = some (ad 13, .inl (cA 0, 11, .inl (σ.1 13))) := rfl
theorem wXsP13 {D : va_G} {ad : Nat → Nat} {cA : Nat → ClassId} {σ : Sto} {H : Heap} {i : Nat} {v : Int32} (h : va_P D vwCl ((wX ad cA σ).set 13 (ad 13, .inl (cA 0, 11, .inl (upd (σ.1 13) i v)))) H) : va_P D vwCl (wX ad cA (sI σ 13 i v)) H := h
theorem wXsD13 {ad : Nat → Nat} {cA : Nat → ClassId} {σ : Sto} {A : Nat → Prop} {i : Nat} {v : Int32} (h : va_D A ((wX ad cA σ).set 13 (ad 13, .inl (cA 0, 11, .inl (upd (σ.1 13) i v))))) : va_D A (wX ad cA (sI σ 13 i v)) := h
theorem wXg14 {ad : Nat → Nat} {cA : Nat → ClassId} {σ : Sto} : (wX ad cA σ)[14]? = some (ad 14, .inr (1, [.ref (ad 1), .int (σ.1 14 1), .int (σ.1 14 2), .int (σ.1 14 3), .ref (ad 15), .ref (ad 16), .ref (ad 17), .ref (ad 18), .ref (ad 19)])) := rfl
theorem wXfP14_1 {D : va_G} {ad : Nat → Nat} {cA : Nat → ClassId} {σ : Sto} {H : Heap} {v : Int32} (h : va_P D vwCl ((wX ad cA σ).set 14 (ad 14, .inr (1, ([.ref (ad 1), .int (σ.1 14 1), .int (σ.1 14 2), .int (σ.1 14 3), .ref (ad 15), .ref (ad 16), .ref (ad 17), .ref (ad 18), .ref (ad 19)] : List Value).set 1 (.int v)))) H) : va_P D vwCl (wX ad cA (sI σ 14 1 v)) H := h
theorem wXfD14_1 {ad : Nat → Nat} {cA : Nat → ClassId} {σ : Sto} {A : Nat → Prop} {v : Int32} (h : va_D A ((wX ad cA σ).set 14 (ad 14, .inr (1, ([.ref (ad 1), .int (σ.1 14 1), .int (σ.1 14 2), .int (σ.1 14 3), .ref (ad 15), .ref (ad 16), .ref (ad 17), .ref (ad 18), .ref (ad 19)] : List Value).set 1 (.int v))))) : va_D A (wX ad cA (sI σ 14 1 v)) := h
theorem wXfP14_2 {D : va_G} {ad : Nat → Nat} {cA : Nat → ClassId} {σ : Sto} {H : Heap} {v : Int32} (h : va_P D vwCl ((wX ad cA σ).set 14 (ad 14, .inr (1, ([.ref (ad 1), .int (σ.1 14 1), .int (σ.1 14 2), .int (σ.1 14 3), .ref (ad 15), .ref (ad 16), .ref (ad 17), .ref (ad 18), .ref (ad 19)] : List Value).set 2 (.int v)))) H) : va_P D vwCl (wX ad cA (sI σ 14 2 v)) H := h
theorem wXfD14_2 {ad : Nat → Nat} {cA : Nat → ClassId} {σ : Sto} {A : Nat → Prop} {v : Int32} (h : va_D A ((wX ad cA σ).set 14 (ad 14, .inr (1, ([.ref (ad 1), .int (σ.1 14 1), .int (σ.1 14 2), .int (σ.1 14 3), .ref (ad 15), .ref (ad 16), .ref (ad 17), .ref (ad 18), .ref (ad 19)] : List Value).set 2 (.int v))))) : va_D A (wX ad cA (sI σ 14 2 v)) := h
theorem wXfP14_3 {D : va_G} {ad : Nat → Nat} {cA : Nat → ClassId} {σ : Sto} {H : Heap} {v : Int32} (h : va_P D vwCl ((wX ad cA σ).set 14 (ad 14, .inr (1, ([.ref (ad 1), .int (σ.1 14 1), .int (σ.1 14 2), .int (σ.1 14 3), .ref (ad 15), .ref (ad 16), .ref (ad 17), .ref (ad 18), .ref (ad 19)] : List Value).set 3 (.int v)))) H) : va_P D vwCl (wX ad cA (sI σ 14 3 v)) H := h
theorem wXfD14_3 {ad : Nat → Nat} {cA : Nat → ClassId} {σ : Sto} {A : Nat → Prop} {v : Int32} (h : va_D A ((wX ad cA σ).set 14 (ad 14, .inr (1, ([.ref (ad 1), .int (σ.1 14 1), .int (σ.1 14 2), .int (σ.1 14 3), .ref (ad 15), .ref (ad 16), .ref (ad 17), .ref (ad 18), .ref (ad 19)] : List Value).set 3 (.int v))))) : va_D A (wX ad cA (sI σ 14 3 v)) := h
theorem wXg15 {ad : Nat → Nat} {cA : Nat → ClassId} {σ : Sto} : (wX ad cA σ)[15]? = some (ad 15, .inl (cA 0, 132, .inl (σ.1 15))) := rfl
theorem wXsP15 {D : va_G} {ad : Nat → Nat} {cA : Nat → ClassId} {σ : Sto} {H : Heap} {i : Nat} {v : Int32} (h : va_P D vwCl ((wX ad cA σ).set 15 (ad 15, .inl (cA 0, 132, .inl (upd (σ.1 15) i v)))) H) : va_P D vwCl (wX ad cA (sI σ 15 i v)) H := h
theorem wXsD15 {ad : Nat → Nat} {cA : Nat → ClassId} {σ : Sto} {A : Nat → Prop} {i : Nat} {v : Int32} (h : va_D A ((wX ad cA σ).set 15 (ad 15, .inl (cA 0, 132, .inl (upd (σ.1 15) i v))))) : va_D A (wX ad cA (sI σ 15 i v)) := h
theorem wXg16 {ad : Nat → Nat} {cA : Nat → ClassId} {σ : Sto} : (wX ad cA σ)[16]? = some (ad 16, .inl (cA 1, 132, .inr (.inl (σ.2 16)))) := rfl
theorem wXsP16 {D : va_G} {ad : Nat → Nat} {cA : Nat → ClassId} {σ : Sto} {H : Heap} {i : Nat} {v : Int64} (h : va_P D vwCl ((wX ad cA σ).set 16 (ad 16, .inl (cA 1, 132, .inr (.inl (vp_updL (σ.2 16) i v))))) H) : va_P D vwCl (wX ad cA (sJ σ 16 i v)) H := h
theorem wXsD16 {ad : Nat → Nat} {cA : Nat → ClassId} {σ : Sto} {A : Nat → Prop} {i : Nat} {v : Int64} (h : va_D A ((wX ad cA σ).set 16 (ad 16, .inl (cA 1, 132, .inr (.inl (vp_updL (σ.2 16) i v)))))) : va_D A (wX ad cA (sJ σ 16 i v)) := h
theorem wXg17 {ad : Nat → Nat} {cA : Nat → ClassId} {σ : Sto} : (wX ad cA σ)[17]? = some (ad 17, .inl (cA 0, 132, .inl (σ.1 17))) := rfl
theorem wXsP17 {D : va_G} {ad : Nat → Nat} {cA : Nat → ClassId} {σ : Sto} {H : Heap} {i : Nat} {v : Int32} (h : va_P D vwCl ((wX ad cA σ).set 17 (ad 17, .inl (cA 0, 132, .inl (upd (σ.1 17) i v)))) H) : va_P D vwCl (wX ad cA (sI σ 17 i v)) H := h
theorem wXsD17 {ad : Nat → Nat} {cA : Nat → ClassId} {σ : Sto} {A : Nat → Prop} {i : Nat} {v : Int32} (h : va_D A ((wX ad cA σ).set 17 (ad 17, .inl (cA 0, 132, .inl (upd (σ.1 17) i v))))) : va_D A (wX ad cA (sI σ 17 i v)) := h
theorem wXg18 {ad : Nat → Nat} {cA : Nat → ClassId} {σ : Sto} : (wX ad cA σ)[18]? = some (ad 18, .inl (cA 0, 132, .inl (σ.1 18))) := rfl
theorem wXsP18 {D : va_G} {ad : Nat → Nat} {cA : Nat → ClassId} {σ : Sto} {H : Heap} {i : Nat} {v : Int32} (h : va_P D vwCl ((wX ad cA σ).set 18 (ad 18, .inl (cA 0, 132, .inl (upd (σ.1 18) i v)))) H) : va_P D vwCl (wX ad cA (sI σ 18 i v)) H := h
theorem wXsD18 {ad : Nat → Nat} {cA : Nat → ClassId} {σ : Sto} {A : Nat → Prop} {i : Nat} {v : Int32} (h : va_D A ((wX ad cA σ).set 18 (ad 18, .inl (cA 0, 132, .inl (upd (σ.1 18) i v))))) : va_D A (wX ad cA (sI σ 18 i v)) := h
theorem wXg19 {ad : Nat → Nat} {cA : Nat → ClassId} {σ : Sto} : (wX ad cA σ)[19]? = some (ad 19, .inl (cA 0, 132, .inl (σ.1 19))) := rfl
theorem wXsP19 {D : va_G} {ad : Nat → Nat} {cA : Nat → ClassId} {σ : Sto} {H : Heap} {i : Nat} {v : Int32} (h : va_P D vwCl ((wX ad cA σ).set 19 (ad 19, .inl (cA 0, 132, .inl (upd (σ.1 19) i v)))) H) : va_P D vwCl (wX ad cA (sI σ 19 i v)) H := h
theorem wXsD19 {ad : Nat → Nat} {cA : Nat → ClassId} {σ : Sto} {A : Nat → Prop} {i : Nat} {v : Int32} (h : va_D A ((wX ad cA σ).set 19 (ad 19, .inl (cA 0, 132, .inl (upd (σ.1 19) i v))))) : va_D A (wX ad cA (sI σ 19 i v)) := h
theorem wXg20 {ad : Nat → Nat} {cA : Nat → ClassId} {σ : Sto} : (wX ad cA σ)[20]? = some (ad 20, .inr (3, [.int (σ.1 20 0), .ref (ad 21), .ref (ad 22), .ref (ad 23), .ref (ad 24)])) := rfl
theorem wXfP20_0 {D : va_G} {ad : Nat → Nat} {cA : Nat → ClassId} {σ : Sto} {H : Heap} {v : Int32} (h : va_P D vwCl ((wX ad cA σ).set 20 (ad 20, .inr (3, ([.int (σ.1 20 0), .ref (ad 21), .ref (ad 22), .ref (ad 23), .ref (ad 24)] : List Value).set 0 (.int v)))) H) : va_P D vwCl (wX ad cA (sI σ 20 0 v)) H := h
theorem wXfD20_0 {ad : Nat → Nat} {cA : Nat → ClassId} {σ : Sto} {A : Nat → Prop} {v : Int32} (h : va_D A ((wX ad cA σ).set 20 (ad 20, .inr (3, ([.int (σ.1 20 0), .ref (ad 21), .ref (ad 22), .ref (ad 23), .ref (ad 24)] : List Value).set 0 (.int v))))) : va_D A (wX ad cA (sI σ 20 0 v)) := h
theorem wXg21 {ad : Nat → Nat} {cA : Nat → ClassId} {σ : Sto} : (wX ad cA σ)[21]? = some (ad 21, .inl (cA 0, 3, .inl (σ.1 21))) := rfl
theorem wXsP21 {D : va_G} {ad : Nat → Nat} {cA : Nat → ClassId} {σ : Sto} {H : Heap} {i : Nat} {v : Int32} (h : va_P D vwCl ((wX ad cA σ).set 21 (ad 21, .inl (cA 0, 3, .inl (upd (σ.1 21) i v)))) H) : va_P D vwCl (wX ad cA (sI σ 21 i v)) H := h
theorem wXsD21 {ad : Nat → Nat} {cA : Nat → ClassId} {σ : Sto} {A : Nat → Prop} {i : Nat} {v : Int32} (h : va_D A ((wX ad cA σ).set 21 (ad 21, .inl (cA 0, 3, .inl (upd (σ.1 21) i v))))) : va_D A (wX ad cA (sI σ 21 i v)) := h
theorem wXg22 {ad : Nat → Nat} {cA : Nat → ClassId} {σ : Sto} : (wX ad cA σ)[22]? = some (ad 22, .inl (cA 0, 3, .inl (σ.1 22))) := rfl
theorem wXsP22 {D : va_G} {ad : Nat → Nat} {cA : Nat → ClassId} {σ : Sto} {H : Heap} {i : Nat} {v : Int32} (h : va_P D vwCl ((wX ad cA σ).set 22 (ad 22, .inl (cA 0, 3, .inl (upd (σ.1 22) i v)))) H) : va_P D vwCl (wX ad cA (sI σ 22 i v)) H := h
theorem wXsD22 {ad : Nat → Nat} {cA : Nat → ClassId} {σ : Sto} {A : Nat → Prop} {i : Nat} {v : Int32} (h : va_D A ((wX ad cA σ).set 22 (ad 22, .inl (cA 0, 3, .inl (upd (σ.1 22) i v))))) : va_D A (wX ad cA (sI σ 22 i v)) := h
theorem wXg23 {ad : Nat → Nat} {cA : Nat → ClassId} {σ : Sto} : (wX ad cA σ)[23]? = some (ad 23, .inl (cA 0, 3, .inl (σ.1 23))) := rfl
theorem wXsP23 {D : va_G} {ad : Nat → Nat} {cA : Nat → ClassId} {σ : Sto} {H : Heap} {i : Nat} {v : Int32} (h : va_P D vwCl ((wX ad cA σ).set 23 (ad 23, .inl (cA 0, 3, .inl (upd (σ.1 23) i v)))) H) : va_P D vwCl (wX ad cA (sI σ 23 i v)) H := h
theorem wXsD23 {ad : Nat → Nat} {cA : Nat → ClassId} {σ : Sto} {A : Nat → Prop} {i : Nat} {v : Int32} (h : va_D A ((wX ad cA σ).set 23 (ad 23, .inl (cA 0, 3, .inl (upd (σ.1 23) i v))))) : va_D A (wX ad cA (sI σ 23 i v)) := h
theorem wXg24 {ad : Nat → Nat} {cA : Nat → ClassId} {σ : Sto} : (wX ad cA σ)[24]? = some (ad 24, .inl (cA 2, 3, .inr (.inr (.inr (.inr (fun i => if i = 0 then some (ad 25) else if i = 1 then some (ad 26) else if i = 2 then some (ad 27) else none)))))) := rfl
theorem wXg25 {ad : Nat → Nat} {cA : Nat → ClassId} {σ : Sto} : (wX ad cA σ)[25]? = some (ad 25, .inl (cA 1, 132, .inr (.inl (σ.2 25)))) := rfl
theorem wXsP25 {D : va_G} {ad : Nat → Nat} {cA : Nat → ClassId} {σ : Sto} {H : Heap} {i : Nat} {v : Int64} (h : va_P D vwCl ((wX ad cA σ).set 25 (ad 25, .inl (cA 1, 132, .inr (.inl (vp_updL (σ.2 25) i v))))) H) : va_P D vwCl (wX ad cA (sJ σ 25 i v)) H := h
theorem wXsD25 {ad : Nat → Nat} {cA : Nat → ClassId} {σ : Sto} {A : Nat → Prop} {i : Nat} {v : Int64} (h : va_D A ((wX ad cA σ).set 25 (ad 25, .inl (cA 1, 132, .inr (.inl (vp_updL (σ.2 25) i v)))))) : va_D A (wX ad cA (sJ σ 25 i v)) := h
theorem wXg26 {ad : Nat → Nat} {cA : Nat → ClassId} {σ : Sto} : (wX ad cA σ)[26]? = some (ad 26, .inl (cA 1, 132, .inr (.inl (σ.2 26)))) := rfl
theorem wXsP26 {D : va_G} {ad : Nat → Nat} {cA : Nat → ClassId} {σ : Sto} {H : Heap} {i : Nat} {v : Int64} (h : va_P D vwCl ((wX ad cA σ).set 26 (ad 26, .inl (cA 1, 132, .inr (.inl (vp_updL (σ.2 26) i v))))) H) : va_P D vwCl (wX ad cA (sJ σ 26 i v)) H := h
theorem wXsD26 {ad : Nat → Nat} {cA : Nat → ClassId} {σ : Sto} {A : Nat → Prop} {i : Nat} {v : Int64} (h : va_D A ((wX ad cA σ).set 26 (ad 26, .inl (cA 1, 132, .inr (.inl (vp_updL (σ.2 26) i v)))))) : va_D A (wX ad cA (sJ σ 26 i v)) := h
theorem wXg27 {ad : Nat → Nat} {cA : Nat → ClassId} {σ : Sto} : (wX ad cA σ)[27]? = some (ad 27, .inl (cA 1, 132, .inr (.inl (σ.2 27)))) := rfl
theorem wXsP27 {D : va_G} {ad : Nat → Nat} {cA : Nat → ClassId} {σ : Sto} {H : Heap} {i : Nat} {v : Int64} (h : va_P D vwCl ((wX ad cA σ).set 27 (ad 27, .inl (cA 1, 132, .inr (.inl (vp_updL (σ.2 27) i v))))) H) : va_P D vwCl (wX ad cA (sJ σ 27 i v)) H := h
theorem wXsD27 {ad : Nat → Nat} {cA : Nat → ClassId} {σ : Sto} {A : Nat → Prop} {i : Nat} {v : Int64} (h : va_D A ((wX ad cA σ).set 27 (ad 27, .inl (cA 1, 132, .inr (.inl (vp_updL (σ.2 27) i v)))))) : va_D A (wX ad cA (sJ σ 27 i v)) := h
theorem wXg28 {ad : Nat → Nat} {cA : Nat → ClassId} {σ : Sto} : (wX ad cA σ)[28]? = some (ad 28, .inr (2, [.int (σ.1 28 0)])) := rfl
theorem wXfP28_0 {D : va_G} {ad : Nat → Nat} {cA : Nat → ClassId} {σ : Sto} {H : Heap} {v : Int32} (h : va_P D vwCl ((wX ad cA σ).set 28 (ad 28, .inr (2, ([.int (σ.1 28 0)] : List Value).set 0 (.int v)))) H) : va_P D vwCl (wX ad cA (sI σ 28 0 v)) H := h
theorem wXfD28_0 {ad : Nat → Nat} {cA : Nat → ClassId} {σ : Sto} {A : Nat → Prop} {v : Int32} (h : va_D A ((wX ad cA σ).set 28 (ad 28, .inr (2, ([.int (σ.1 28 0)] : List Value).set 0 (.int v))))) : va_D A (wX ad cA (sI σ 28 0 v)) := h
theorem wXg29 {ad : Nat → Nat} {cA : Nat → ClassId} {σ : Sto} : (wX ad cA σ)[29]? = some (ad 29, .inr (0, [.long (σ.2 29 0), .long (σ.2 29 1)])) := rfl
theorem wXfP29_0 {D : va_G} {ad : Nat → Nat} {cA : Nat → ClassId} {σ : Sto} {H : Heap} {v : Int64} (h : va_P D vwCl ((wX ad cA σ).set 29 (ad 29, .inr (0, ([.long (σ.2 29 0), .long (σ.2 29 1)] : List Value).set 0 (.long v)))) H) : va_P D vwCl (wX ad cA (sJ σ 29 0 v)) H := h
theorem wXfD29_0 {ad : Nat → Nat} {cA : Nat → ClassId} {σ : Sto} {A : Nat → Prop} {v : Int64} (h : va_D A ((wX ad cA σ).set 29 (ad 29, .inr (0, ([.long (σ.2 29 0), .long (σ.2 29 1)] : List Value).set 0 (.long v))))) : va_D A (wX ad cA (sJ σ 29 0 v)) := h
theorem wXfP29_1 {D : va_G} {ad : Nat → Nat} {cA : Nat → ClassId} {σ : Sto} {H : Heap} {v : Int64} (h : va_P D vwCl ((wX ad cA σ).set 29 (ad 29, .inr (0, ([.long (σ.2 29 0), .long (σ.2 29 1)] : List Value).set 1 (.long v)))) H) : va_P D vwCl (wX ad cA (sJ σ 29 1 v)) H := h
theorem wXfD29_1 {ad : Nat → Nat} {cA : Nat → ClassId} {σ : Sto} {A : Nat → Prop} {v : Int64} (h : va_D A ((wX ad cA σ).set 29 (ad 29, .inr (0, ([.long (σ.2 29 0), .long (σ.2 29 1)] : List Value).set 1 (.long v))))) : va_D A (wX ad cA (sJ σ 29 1 v)) := h
theorem wMg0 {ad : Nat → Nat} {cA : Nat → ClassId} {σ : Sto} : (wM ad cA σ)[0]? = some (ad 0, .inr (8, [.int (σ.1 0 0), .int (σ.1 0 1), .ref (ad 1), .ref (ad 2), .ref (ad 3), .ref (ad 4), .ref (ad 5), .int (σ.1 0 7), .ref (ad 6), .ref (ad 7), .int (σ.1 0 10), .int (σ.1 0 11), .int (σ.1 0 12), .ref (ad 8), .ref (ad 9), .ref (ad 10), .long (σ.2 0 16), .long (σ.2 0 17), .int (σ.1 0 18), .long (σ.2 0 19), .long (σ.2 0 20), .ref (ad 11), .ref (ad 12), .ref (ad 13), .ref (ad 14), .ref (ad 15), .ref (ad 16), .ref (ad 17), .int (σ.1 0 28), .int (σ.1 0 29), .ref (ad 18), .ref (ad 19)])) := rfl
theorem wMfP0_0 {D : va_G} {ad : Nat → Nat} {cA : Nat → ClassId} {σ : Sto} {H : Heap} {v : Int32} (h : va_P D vwCl ((wM ad cA σ).set 0 (ad 0, .inr (8, ([.int (σ.1 0 0), .int (σ.1 0 1), .ref (ad 1), .ref (ad 2), .ref (ad 3), .ref (ad 4), .ref (ad 5), .int (σ.1 0 7), .ref (ad 6), .ref (ad 7), .int (σ.1 0 10), .int (σ.1 0 11), .int (σ.1 0 12), .ref (ad 8), .ref (ad 9), .ref (ad 10), .long (σ.2 0 16), .long (σ.2 0 17), .int (σ.1 0 18), .long (σ.2 0 19), .long (σ.2 0 20), .ref (ad 11), .ref (ad 12), .ref (ad 13), .ref (ad 14), .ref (ad 15), .ref (ad 16), .ref (ad 17), .int (σ.1 0 28), .int (σ.1 0 29), .ref (ad 18), .ref (ad 19)] : List Value).set 0 (.int v)))) H) : va_P D vwCl (wM ad cA (sI σ 0 0 v)) H := h
theorem wMfD0_0 {ad : Nat → Nat} {cA : Nat → ClassId} {σ : Sto} {A : Nat → Prop} {v : Int32} (h : va_D A ((wM ad cA σ).set 0 (ad 0, .inr (8, ([.int (σ.1 0 0), .int (σ.1 0 1), .ref (ad 1), .ref (ad 2), .ref (ad 3), .ref (ad 4), .ref (ad 5), .int (σ.1 0 7), .ref (ad 6), .ref (ad 7), .int (σ.1 0 10), .int (σ.1 0 11), .int (σ.1 0 12), .ref (ad 8), .ref (ad 9), .ref (ad 10), .long (σ.2 0 16), .long (σ.2 0 17), .int (σ.1 0 18), .long (σ.2 0 19), .long (σ.2 0 20), .ref (ad 11), .ref (ad 12), .ref (ad 13), .ref (ad 14), .ref (ad 15), .ref (ad 16), .ref (ad 17), .int (σ.1 0 28), .int (σ.1 0 29), .ref (ad 18), .ref (ad 19)] : List Value).set 0 (.int v))))) : va_D A (wM ad cA (sI σ 0 0 v)) := h
theorem wMfP0_1 {D : va_G} {ad : Nat → Nat} {cA : Nat → ClassId} {σ : Sto} {H : Heap} {v : Int32} (h : va_P D vwCl ((wM ad cA σ).set 0 (ad 0, .inr (8, ([.int (σ.1 0 0), .int (σ.1 0 1), .ref (ad 1), .ref (ad 2), .ref (ad 3), .ref (ad 4), .ref (ad 5), .int (σ.1 0 7), .ref (ad 6), .ref (ad 7), .int (σ.1 0 10), .int (σ.1 0 11), .int (σ.1 0 12), .ref (ad 8), .ref (ad 9), .ref (ad 10), .long (σ.2 0 16), .long (σ.2 0 17), .int (σ.1 0 18), .long (σ.2 0 19), .long (σ.2 0 20), .ref (ad 11), .ref (ad 12), .ref (ad 13), .ref (ad 14), .ref (ad 15), .ref (ad 16), .ref (ad 17), .int (σ.1 0 28), .int (σ.1 0 29), .ref (ad 18), .ref (ad 19)] : List Value).set 1 (.int v)))) H) : va_P D vwCl (wM ad cA (sI σ 0 1 v)) H := h
theorem wMfD0_1 {ad : Nat → Nat} {cA : Nat → ClassId} {σ : Sto} {A : Nat → Prop} {v : Int32} (h : va_D A ((wM ad cA σ).set 0 (ad 0, .inr (8, ([.int (σ.1 0 0), .int (σ.1 0 1), .ref (ad 1), .ref (ad 2), .ref (ad 3), .ref (ad 4), .ref (ad 5), .int (σ.1 0 7), .ref (ad 6), .ref (ad 7), .int (σ.1 0 10), .int (σ.1 0 11), .int (σ.1 0 12), .ref (ad 8), .ref (ad 9), .ref (ad 10), .long (σ.2 0 16), .long (σ.2 0 17), .int (σ.1 0 18), .long (σ.2 0 19), .long (σ.2 0 20), .ref (ad 11), .ref (ad 12), .ref (ad 13), .ref (ad 14), .ref (ad 15), .ref (ad 16), .ref (ad 17), .int (σ.1 0 28), .int (σ.1 0 29), .ref (ad 18), .ref (ad 19)] : List Value).set 1 (.int v))))) : va_D A (wM ad cA (sI σ 0 1 v)) := h
theorem wMfP0_7 {D : va_G} {ad : Nat → Nat} {cA : Nat → ClassId} {σ : Sto} {H : Heap} {v : Int32} (h : va_P D vwCl ((wM ad cA σ).set 0 (ad 0, .inr (8, ([.int (σ.1 0 0), .int (σ.1 0 1), .ref (ad 1), .ref (ad 2), .ref (ad 3), .ref (ad 4), .ref (ad 5), .int (σ.1 0 7), .ref (ad 6), .ref (ad 7), .int (σ.1 0 10), .int (σ.1 0 11), .int (σ.1 0 12), .ref (ad 8), .ref (ad 9), .ref (ad 10), .long (σ.2 0 16), .long (σ.2 0 17), .int (σ.1 0 18), .long (σ.2 0 19), .long (σ.2 0 20), .ref (ad 11), .ref (ad 12), .ref (ad 13), .ref (ad 14), .ref (ad 15), .ref (ad 16), .ref (ad 17), .int (σ.1 0 28), .int (σ.1 0 29), .ref (ad 18), .ref (ad 19)] : List Value).set 7 (.int v)))) H) : va_P D vwCl (wM ad cA (sI σ 0 7 v)) H := h
theorem wMfD0_7 {ad : Nat → Nat} {cA : Nat → ClassId} {σ : Sto} {A : Nat → Prop} {v : Int32} (h : va_D A ((wM ad cA σ).set 0 (ad 0, .inr (8, ([.int (σ.1 0 0), .int (σ.1 0 1), .ref (ad 1), .ref (ad 2), .ref (ad 3), .ref (ad 4), .ref (ad 5), .int (σ.1 0 7), .ref (ad 6), .ref (ad 7), .int (σ.1 0 10), .int (σ.1 0 11), .int (σ.1 0 12), .ref (ad 8), .ref (ad 9), .ref (ad 10), .long (σ.2 0 16), .long (σ.2 0 17), .int (σ.1 0 18), .long (σ.2 0 19), .long (σ.2 0 20), .ref (ad 11), .ref (ad 12), .ref (ad 13), .ref (ad 14), .ref (ad 15), .ref (ad 16), .ref (ad 17), .int (σ.1 0 28), .int (σ.1 0 29), .ref (ad 18), .ref (ad 19)] : List Value).set 7 (.int v))))) : va_D A (wM ad cA (sI σ 0 7 v)) := h
theorem wMfP0_10 {D : va_G} {ad : Nat → Nat} {cA : Nat → ClassId} {σ : Sto} {H : Heap} {v : Int32} (h : va_P D vwCl ((wM ad cA σ).set 0 (ad 0, .inr (8, ([.int (σ.1 0 0), .int (σ.1 0 1), .ref (ad 1), .ref (ad 2), .ref (ad 3), .ref (ad 4), .ref (ad 5), .int (σ.1 0 7), .ref (ad 6), .ref (ad 7), .int (σ.1 0 10), .int (σ.1 0 11), .int (σ.1 0 12), .ref (ad 8), .ref (ad 9), .ref (ad 10), .long (σ.2 0 16), .long (σ.2 0 17), .int (σ.1 0 18), .long (σ.2 0 19), .long (σ.2 0 20), .ref (ad 11), .ref (ad 12), .ref (ad 13), .ref (ad 14), .ref (ad 15), .ref (ad 16), .ref (ad 17), .int (σ.1 0 28), .int (σ.1 0 29), .ref (ad 18), .ref (ad 19)] : List Value).set 10 (.int v)))) H) : va_P D vwCl (wM ad cA (sI σ 0 10 v)) H := h
theorem wMfD0_10 {ad : Nat → Nat} {cA : Nat → ClassId} {σ : Sto} {A : Nat → Prop} {v : Int32} (h : va_D A ((wM ad cA σ).set 0 (ad 0, .inr (8, ([.int (σ.1 0 0), .int (σ.1 0 1), .ref (ad 1), .ref (ad 2), .ref (ad 3), .ref (ad 4), .ref (ad 5), .int (σ.1 0 7), .ref (ad 6), .ref (ad 7), .int (σ.1 0 10), .int (σ.1 0 11), .int (σ.1 0 12), .ref (ad 8), .ref (ad 9), .ref (ad 10), .long (σ.2 0 16), .long (σ.2 0 17), .int (σ.1 0 18), .long (σ.2 0 19), .long (σ.2 0 20), .ref (ad 11), .ref (ad 12), .ref (ad 13), .ref (ad 14), .ref (ad 15), .ref (ad 16), .ref (ad 17), .int (σ.1 0 28), .int (σ.1 0 29), .ref (ad 18), .ref (ad 19)] : List Value).set 10 (.int v))))) : va_D A (wM ad cA (sI σ 0 10 v)) := h
theorem wMfP0_11 {D : va_G} {ad : Nat → Nat} {cA : Nat → ClassId} {σ : Sto} {H : Heap} {v : Int32} (h : va_P D vwCl ((wM ad cA σ).set 0 (ad 0, .inr (8, ([.int (σ.1 0 0), .int (σ.1 0 1), .ref (ad 1), .ref (ad 2), .ref (ad 3), .ref (ad 4), .ref (ad 5), .int (σ.1 0 7), .ref (ad 6), .ref (ad 7), .int (σ.1 0 10), .int (σ.1 0 11), .int (σ.1 0 12), .ref (ad 8), .ref (ad 9), .ref (ad 10), .long (σ.2 0 16), .long (σ.2 0 17), .int (σ.1 0 18), .long (σ.2 0 19), .long (σ.2 0 20), .ref (ad 11), .ref (ad 12), .ref (ad 13), .ref (ad 14), .ref (ad 15), .ref (ad 16), .ref (ad 17), .int (σ.1 0 28), .int (σ.1 0 29), .ref (ad 18), .ref (ad 19)] : List Value).set 11 (.int v)))) H) : va_P D vwCl (wM ad cA (sI σ 0 11 v)) H := h
theorem wMfD0_11 {ad : Nat → Nat} {cA : Nat → ClassId} {σ : Sto} {A : Nat → Prop} {v : Int32} (h : va_D A ((wM ad cA σ).set 0 (ad 0, .inr (8, ([.int (σ.1 0 0), .int (σ.1 0 1), .ref (ad 1), .ref (ad 2), .ref (ad 3), .ref (ad 4), .ref (ad 5), .int (σ.1 0 7), .ref (ad 6), .ref (ad 7), .int (σ.1 0 10), .int (σ.1 0 11), .int (σ.1 0 12), .ref (ad 8), .ref (ad 9), .ref (ad 10), .long (σ.2 0 16), .long (σ.2 0 17), .int (σ.1 0 18), .long (σ.2 0 19), .long (σ.2 0 20), .ref (ad 11), .ref (ad 12), .ref (ad 13), .ref (ad 14), .ref (ad 15), .ref (ad 16), .ref (ad 17), .int (σ.1 0 28), .int (σ.1 0 29), .ref (ad 18), .ref (ad 19)] : List Value).set 11 (.int v))))) : va_D A (wM ad cA (sI σ 0 11 v)) := h
theorem wMfP0_12 {D : va_G} {ad : Nat → Nat} {cA : Nat → ClassId} {σ : Sto} {H : Heap} {v : Int32} (h : va_P D vwCl ((wM ad cA σ).set 0 (ad 0, .inr (8, ([.int (σ.1 0 0), .int (σ.1 0 1), .ref (ad 1), .ref (ad 2), .ref (ad 3), .ref (ad 4), .ref (ad 5), .int (σ.1 0 7), .ref (ad 6), .ref (ad 7), .int (σ.1 0 10), .int (σ.1 0 11), .int (σ.1 0 12), .ref (ad 8), .ref (ad 9), .ref (ad 10), .long (σ.2 0 16), .long (σ.2 0 17), .int (σ.1 0 18), .long (σ.2 0 19), .long (σ.2 0 20), .ref (ad 11), .ref (ad 12), .ref (ad 13), .ref (ad 14), .ref (ad 15), .ref (ad 16), .ref (ad 17), .int (σ.1 0 28), .int (σ.1 0 29), .ref (ad 18), .ref (ad 19)] : List Value).set 12 (.int v)))) H) : va_P D vwCl (wM ad cA (sI σ 0 12 v)) H := h
theorem wMfD0_12 {ad : Nat → Nat} {cA : Nat → ClassId} {σ : Sto} {A : Nat → Prop} {v : Int32} (h : va_D A ((wM ad cA σ).set 0 (ad 0, .inr (8, ([.int (σ.1 0 0), .int (σ.1 0 1), .ref (ad 1), .ref (ad 2), .ref (ad 3), .ref (ad 4), .ref (ad 5), .int (σ.1 0 7), .ref (ad 6), .ref (ad 7), .int (σ.1 0 10), .int (σ.1 0 11), .int (σ.1 0 12), .ref (ad 8), .ref (ad 9), .ref (ad 10), .long (σ.2 0 16), .long (σ.2 0 17), .int (σ.1 0 18), .long (σ.2 0 19), .long (σ.2 0 20), .ref (ad 11), .ref (ad 12), .ref (ad 13), .ref (ad 14), .ref (ad 15), .ref (ad 16), .ref (ad 17), .int (σ.1 0 28), .int (σ.1 0 29), .ref (ad 18), .ref (ad 19)] : List Value).set 12 (.int v))))) : va_D A (wM ad cA (sI σ 0 12 v)) := h
theorem wMfP0_16 {D : va_G} {ad : Nat → Nat} {cA : Nat → ClassId} {σ : Sto} {H : Heap} {v : Int64} (h : va_P D vwCl ((wM ad cA σ).set 0 (ad 0, .inr (8, ([.int (σ.1 0 0), .int (σ.1 0 1), .ref (ad 1), .ref (ad 2), .ref (ad 3), .ref (ad 4), .ref (ad 5), .int (σ.1 0 7), .ref (ad 6), .ref (ad 7), .int (σ.1 0 10), .int (σ.1 0 11), .int (σ.1 0 12), .ref (ad 8), .ref (ad 9), .ref (ad 10), .long (σ.2 0 16), .long (σ.2 0 17), .int (σ.1 0 18), .long (σ.2 0 19), .long (σ.2 0 20), .ref (ad 11), .ref (ad 12), .ref (ad 13), .ref (ad 14), .ref (ad 15), .ref (ad 16), .ref (ad 17), .int (σ.1 0 28), .int (σ.1 0 29), .ref (ad 18), .ref (ad 19)] : List Value).set 16 (.long v)))) H) : va_P D vwCl (wM ad cA (sJ σ 0 16 v)) H := h
theorem wMfD0_16 {ad : Nat → Nat} {cA : Nat → ClassId} {σ : Sto} {A : Nat → Prop} {v : Int64} (h : va_D A ((wM ad cA σ).set 0 (ad 0, .inr (8, ([.int (σ.1 0 0), .int (σ.1 0 1), .ref (ad 1), .ref (ad 2), .ref (ad 3), .ref (ad 4), .ref (ad 5), .int (σ.1 0 7), .ref (ad 6), .ref (ad 7), .int (σ.1 0 10), .int (σ.1 0 11), .int (σ.1 0 12), .ref (ad 8), .ref (ad 9), .ref (ad 10), .long (σ.2 0 16), .long (σ.2 0 17), .int (σ.1 0 18), .long (σ.2 0 19), .long (σ.2 0 20), .ref (ad 11), .ref (ad 12), .ref (ad 13), .ref (ad 14), .ref (ad 15), .ref (ad 16), .ref (ad 17), .int (σ.1 0 28), .int (σ.1 0 29), .ref (ad 18), .ref (ad 19)] : List Value).set 16 (.long v))))) : va_D A (wM ad cA (sJ σ 0 16 v)) := h
theorem wMfP0_17 {D : va_G} {ad : Nat → Nat} {cA : Nat → ClassId} {σ : Sto} {H : Heap} {v : Int64} (h : va_P D vwCl ((wM ad cA σ).set 0 (ad 0, .inr (8, ([.int (σ.1 0 0), .int (σ.1 0 1), .ref (ad 1), .ref (ad 2), .ref (ad 3), .ref (ad 4), .ref (ad 5), .int (σ.1 0 7), .ref (ad 6), .ref (ad 7), .int (σ.1 0 10), .int (σ.1 0 11), .int (σ.1 0 12), .ref (ad 8), .ref (ad 9), .ref (ad 10), .long (σ.2 0 16), .long (σ.2 0 17), .int (σ.1 0 18), .long (σ.2 0 19), .long (σ.2 0 20), .ref (ad 11), .ref (ad 12), .ref (ad 13), .ref (ad 14), .ref (ad 15), .ref (ad 16), .ref (ad 17), .int (σ.1 0 28), .int (σ.1 0 29), .ref (ad 18), .ref (ad 19)] : List Value).set 17 (.long v)))) H) : va_P D vwCl (wM ad cA (sJ σ 0 17 v)) H := h
theorem wMfD0_17 {ad : Nat → Nat} {cA : Nat → ClassId} {σ : Sto} {A : Nat → Prop} {v : Int64} (h : va_D A ((wM ad cA σ).set 0 (ad 0, .inr (8, ([.int (σ.1 0 0), .int (σ.1 0 1), .ref (ad 1), .ref (ad 2), .ref (ad 3), .ref (ad 4), .ref (ad 5), .int (σ.1 0 7), .ref (ad 6), .ref (ad 7), .int (σ.1 0 10), .int (σ.1 0 11), .int (σ.1 0 12), .ref (ad 8), .ref (ad 9), .ref (ad 10), .long (σ.2 0 16), .long (σ.2 0 17), .int (σ.1 0 18), .long (σ.2 0 19), .long (σ.2 0 20), .ref (ad 11), .ref (ad 12), .ref (ad 13), .ref (ad 14), .ref (ad 15), .ref (ad 16), .ref (ad 17), .int (σ.1 0 28), .int (σ.1 0 29), .ref (ad 18), .ref (ad 19)] : List Value).set 17 (.long v))))) : va_D A (wM ad cA (sJ σ 0 17 v)) := h
theorem wMfP0_18 {D : va_G} {ad : Nat → Nat} {cA : Nat → ClassId} {σ : Sto} {H : Heap} {v : Int32} (h : va_P D vwCl ((wM ad cA σ).set 0 (ad 0, .inr (8, ([.int (σ.1 0 0), .int (σ.1 0 1), .ref (ad 1), .ref (ad 2), .ref (ad 3), .ref (ad 4), .ref (ad 5), .int (σ.1 0 7), .ref (ad 6), .ref (ad 7), .int (σ.1 0 10), .int (σ.1 0 11), .int (σ.1 0 12), .ref (ad 8), .ref (ad 9), .ref (ad 10), .long (σ.2 0 16), .long (σ.2 0 17), .int (σ.1 0 18), .long (σ.2 0 19), .long (σ.2 0 20), .ref (ad 11), .ref (ad 12), .ref (ad 13), .ref (ad 14), .ref (ad 15), .ref (ad 16), .ref (ad 17), .int (σ.1 0 28), .int (σ.1 0 29), .ref (ad 18), .ref (ad 19)] : List Value).set 18 (.int v)))) H) : va_P D vwCl (wM ad cA (sI σ 0 18 v)) H := h
theorem wMfD0_18 {ad : Nat → Nat} {cA : Nat → ClassId} {σ : Sto} {A : Nat → Prop} {v : Int32} (h : va_D A ((wM ad cA σ).set 0 (ad 0, .inr (8, ([.int (σ.1 0 0), .int (σ.1 0 1), .ref (ad 1), .ref (ad 2), .ref (ad 3), .ref (ad 4), .ref (ad 5), .int (σ.1 0 7), .ref (ad 6), .ref (ad 7), .int (σ.1 0 10), .int (σ.1 0 11), .int (σ.1 0 12), .ref (ad 8), .ref (ad 9), .ref (ad 10), .long (σ.2 0 16), .long (σ.2 0 17), .int (σ.1 0 18), .long (σ.2 0 19), .long (σ.2 0 20), .ref (ad 11), .ref (ad 12), .ref (ad 13), .ref (ad 14), .ref (ad 15), .ref (ad 16), .ref (ad 17), .int (σ.1 0 28), .int (σ.1 0 29), .ref (ad 18), .ref (ad 19)] : List Value).set 18 (.int v))))) : va_D A (wM ad cA (sI σ 0 18 v)) := h
theorem wMfP0_19 {D : va_G} {ad : Nat → Nat} {cA : Nat → ClassId} {σ : Sto} {H : Heap} {v : Int64} (h : va_P D vwCl ((wM ad cA σ).set 0 (ad 0, .inr (8, ([.int (σ.1 0 0), .int (σ.1 0 1), .ref (ad 1), .ref (ad 2), .ref (ad 3), .ref (ad 4), .ref (ad 5), .int (σ.1 0 7), .ref (ad 6), .ref (ad 7), .int (σ.1 0 10), .int (σ.1 0 11), .int (σ.1 0 12), .ref (ad 8), .ref (ad 9), .ref (ad 10), .long (σ.2 0 16), .long (σ.2 0 17), .int (σ.1 0 18), .long (σ.2 0 19), .long (σ.2 0 20), .ref (ad 11), .ref (ad 12), .ref (ad 13), .ref (ad 14), .ref (ad 15), .ref (ad 16), .ref (ad 17), .int (σ.1 0 28), .int (σ.1 0 29), .ref (ad 18), .ref (ad 19)] : List Value).set 19 (.long v)))) H) : va_P D vwCl (wM ad cA (sJ σ 0 19 v)) H := h
theorem wMfD0_19 {ad : Nat → Nat} {cA : Nat → ClassId} {σ : Sto} {A : Nat → Prop} {v : Int64} (h : va_D A ((wM ad cA σ).set 0 (ad 0, .inr (8, ([.int (σ.1 0 0), .int (σ.1 0 1), .ref (ad 1), .ref (ad 2), .ref (ad 3), .ref (ad 4), .ref (ad 5), .int (σ.1 0 7), .ref (ad 6), .ref (ad 7), .int (σ.1 0 10), .int (σ.1 0 11), .int (σ.1 0 12), .ref (ad 8), .ref (ad 9), .ref (ad 10), .long (σ.2 0 16), .long (σ.2 0 17), .int (σ.1 0 18), .long (σ.2 0 19), .long (σ.2 0 20), .ref (ad 11), .ref (ad 12), .ref (ad 13), .ref (ad 14), .ref (ad 15), .ref (ad 16), .ref (ad 17), .int (σ.1 0 28), .int (σ.1 0 29), .ref (ad 18), .ref (ad 19)] : List Value).set 19 (.long v))))) : va_D A (wM ad cA (sJ σ 0 19 v)) := h
theorem wMfP0_20 {D : va_G} {ad : Nat → Nat} {cA : Nat → ClassId} {σ : Sto} {H : Heap} {v : Int64} (h : va_P D vwCl ((wM ad cA σ).set 0 (ad 0, .inr (8, ([.int (σ.1 0 0), .int (σ.1 0 1), .ref (ad 1), .ref (ad 2), .ref (ad 3), .ref (ad 4), .ref (ad 5), .int (σ.1 0 7), .ref (ad 6), .ref (ad 7), .int (σ.1 0 10), .int (σ.1 0 11), .int (σ.1 0 12), .ref (ad 8), .ref (ad 9), .ref (ad 10), .long (σ.2 0 16), .long (σ.2 0 17), .int (σ.1 0 18), .long (σ.2 0 19), .long (σ.2 0 20), .ref (ad 11), .ref (ad 12), .ref (ad 13), .ref (ad 14), .ref (ad 15), .ref (ad 16), .ref (ad 17), .int (σ.1 0 28), .int (σ.1 0 29), .ref (ad 18), .ref (ad 19)] : List Value).set 20 (.long v)))) H) : va_P D vwCl (wM ad cA (sJ σ 0 20 v)) H := h
theorem wMfD0_20 {ad : Nat → Nat} {cA : Nat → ClassId} {σ : Sto} {A : Nat → Prop} {v : Int64} (h : va_D A ((wM ad cA σ).set 0 (ad 0, .inr (8, ([.int (σ.1 0 0), .int (σ.1 0 1), .ref (ad 1), .ref (ad 2), .ref (ad 3), .ref (ad 4), .ref (ad 5), .int (σ.1 0 7), .ref (ad 6), .ref (ad 7), .int (σ.1 0 10), .int (σ.1 0 11), .int (σ.1 0 12), .ref (ad 8), .ref (ad 9), .ref (ad 10), .long (σ.2 0 16), .long (σ.2 0 17), .int (σ.1 0 18), .long (σ.2 0 19), .long (σ.2 0 20), .ref (ad 11), .ref (ad 12), .ref (ad 13), .ref (ad 14), .ref (ad 15), .ref (ad 16), .ref (ad 17), .int (σ.1 0 28), .int (σ.1 0 29), .ref (ad 18), .ref (ad 19)] : List Value).set 20 (.long v))))) : va_D A (wM ad cA (sJ σ 0 20 v)) := h
theorem wMfP0_28 {D : va_G} {ad : Nat → Nat} {cA : Nat → ClassId} {σ : Sto} {H : Heap} {v : Int32} (h : va_P D vwCl ((wM ad cA σ).set 0 (ad 0, .inr (8, ([.int (σ.1 0 0), .int (σ.1 0 1), .ref (ad 1), .ref (ad 2), .ref (ad 3), .ref (ad 4), .ref (ad 5), .int (σ.1 0 7), .ref (ad 6), .ref (ad 7), .int (σ.1 0 10), .int (σ.1 0 11), .int (σ.1 0 12), .ref (ad 8), .ref (ad 9), .ref (ad 10), .long (σ.2 0 16), .long (σ.2 0 17), .int (σ.1 0 18), .long (σ.2 0 19), .long (σ.2 0 20), .ref (ad 11), .ref (ad 12), .ref (ad 13), .ref (ad 14), .ref (ad 15), .ref (ad 16), .ref (ad 17), .int (σ.1 0 28), .int (σ.1 0 29), .ref (ad 18), .ref (ad 19)] : List Value).set 28 (.int v)))) H) : va_P D vwCl (wM ad cA (sI σ 0 28 v)) H := h
theorem wMfD0_28 {ad : Nat → Nat} {cA : Nat → ClassId} {σ : Sto} {A : Nat → Prop} {v : Int32} (h : va_D A ((wM ad cA σ).set 0 (ad 0, .inr (8, ([.int (σ.1 0 0), .int (σ.1 0 1), .ref (ad 1), .ref (ad 2), .ref (ad 3), .ref (ad 4), .ref (ad 5), .int (σ.1 0 7), .ref (ad 6), .ref (ad 7), .int (σ.1 0 10), .int (σ.1 0 11), .int (σ.1 0 12), .ref (ad 8), .ref (ad 9), .ref (ad 10), .long (σ.2 0 16), .long (σ.2 0 17), .int (σ.1 0 18), .long (σ.2 0 19), .long (σ.2 0 20), .ref (ad 11), .ref (ad 12), .ref (ad 13), .ref (ad 14), .ref (ad 15), .ref (ad 16), .ref (ad 17), .int (σ.1 0 28), .int (σ.1 0 29), .ref (ad 18), .ref (ad 19)] : List Value).set 28 (.int v))))) : va_D A (wM ad cA (sI σ 0 28 v)) := h
theorem wMfP0_29 {D : va_G} {ad : Nat → Nat} {cA : Nat → ClassId} {σ : Sto} {H : Heap} {v : Int32} (h : va_P D vwCl ((wM ad cA σ).set 0 (ad 0, .inr (8, ([.int (σ.1 0 0), .int (σ.1 0 1), .ref (ad 1), .ref (ad 2), .ref (ad 3), .ref (ad 4), .ref (ad 5), .int (σ.1 0 7), .ref (ad 6), .ref (ad 7), .int (σ.1 0 10), .int (σ.1 0 11), .int (σ.1 0 12), .ref (ad 8), .ref (ad 9), .ref (ad 10), .long (σ.2 0 16), .long (σ.2 0 17), .int (σ.1 0 18), .long (σ.2 0 19), .long (σ.2 0 20), .ref (ad 11), .ref (ad 12), .ref (ad 13), .ref (ad 14), .ref (ad 15), .ref (ad 16), .ref (ad 17), .int (σ.1 0 28), .int (σ.1 0 29), .ref (ad 18), .ref (ad 19)] : List Value).set 29 (.int v)))) H) : va_P D vwCl (wM ad cA (sI σ 0 29 v)) H := h
theorem wMfD0_29 {ad : Nat → Nat} {cA : Nat → ClassId} {σ : Sto} {A : Nat → Prop} {v : Int32} (h : va_D A ((wM ad cA σ).set 0 (ad 0, .inr (8, ([.int (σ.1 0 0), .int (σ.1 0 1), .ref (ad 1), .ref (ad 2), .ref (ad 3), .ref (ad 4), .ref (ad 5), .int (σ.1 0 7), .ref (ad 6), .ref (ad 7), .int (σ.1 0 10), .int (σ.1 0 11), .int (σ.1 0 12), .ref (ad 8), .ref (ad 9), .ref (ad 10), .long (σ.2 0 16), .long (σ.2 0 17), .int (σ.1 0 18), .long (σ.2 0 19), .long (σ.2 0 20), .ref (ad 11), .ref (ad 12), .ref (ad 13), .ref (ad 14), .ref (ad 15), .ref (ad 16), .ref (ad 17), .int (σ.1 0 28), .int (σ.1 0 29), .ref (ad 18), .ref (ad 19)] : List Value).set 29 (.int v))))) : va_D A (wM ad cA (sI σ 0 29 v)) := h
theorem wMg1 {ad : Nat → Nat} {cA : Nat → ClassId} {σ : Sto} : (wM ad cA σ)[1]? = some (ad 1, .inl (cA 0, 144, .inl (σ.1 1))) := rfl
theorem wMsP1 {D : va_G} {ad : Nat → Nat} {cA : Nat → ClassId} {σ : Sto} {H : Heap} {i : Nat} {v : Int32} (h : va_P D vwCl ((wM ad cA σ).set 1 (ad 1, .inl (cA 0, 144, .inl (upd (σ.1 1) i v)))) H) : va_P D vwCl (wM ad cA (sI σ 1 i v)) H := h
theorem wMsD1 {ad : Nat → Nat} {cA : Nat → ClassId} {σ : Sto} {A : Nat → Prop} {i : Nat} {v : Int32} (h : va_D A ((wM ad cA σ).set 1 (ad 1, .inl (cA 0, 144, .inl (upd (σ.1 1) i v))))) : va_D A (wM ad cA (sI σ 1 i v)) := h
theorem wMg2 {ad : Nat → Nat} {cA : Nat → ClassId} {σ : Sto} : (wM ad cA σ)[2]? = some (ad 2, .inl (cA 0, 132, .inl (σ.1 2))) := rfl
theorem wMsP2 {D : va_G} {ad : Nat → Nat} {cA : Nat → ClassId} {σ : Sto} {H : Heap} {i : Nat} {v : Int32} (h : va_P D vwCl ((wM ad cA σ).set 2 (ad 2, .inl (cA 0, 132, .inl (upd (σ.1 2) i v)))) H) : va_P D vwCl (wM ad cA (sI σ 2 i v)) H := h
theorem wMsD2 {ad : Nat → Nat} {cA : Nat → ClassId} {σ : Sto} {A : Nat → Prop} {i : Nat} {v : Int32} (h : va_D A ((wM ad cA σ).set 2 (ad 2, .inl (cA 0, 132, .inl (upd (σ.1 2) i v))))) : va_D A (wM ad cA (sI σ 2 i v)) := h
theorem wMg3 {ad : Nat → Nat} {cA : Nat → ClassId} {σ : Sto} : (wM ad cA σ)[3]? = some (ad 3, .inl (cA 0, 132, .inl (σ.1 3))) := rfl
theorem wMsP3 {D : va_G} {ad : Nat → Nat} {cA : Nat → ClassId} {σ : Sto} {H : Heap} {i : Nat} {v : Int32} (h : va_P D vwCl ((wM ad cA σ).set 3 (ad 3, .inl (cA 0, 132, .inl (upd (σ.1 3) i v)))) H) : va_P D vwCl (wM ad cA (sI σ 3 i v)) H := h
theorem wMsD3 {ad : Nat → Nat} {cA : Nat → ClassId} {σ : Sto} {A : Nat → Prop} {i : Nat} {v : Int32} (h : va_D A ((wM ad cA σ).set 3 (ad 3, .inl (cA 0, 132, .inl (upd (σ.1 3) i v))))) : va_D A (wM ad cA (sI σ 3 i v)) := h
theorem wMg4 {ad : Nat → Nat} {cA : Nat → ClassId} {σ : Sto} : (wM ad cA σ)[4]? = some (ad 4, .inl (cA 0, 132, .inl (σ.1 4))) := rfl
theorem wMsP4 {D : va_G} {ad : Nat → Nat} {cA : Nat → ClassId} {σ : Sto} {H : Heap} {i : Nat} {v : Int32} (h : va_P D vwCl ((wM ad cA σ).set 4 (ad 4, .inl (cA 0, 132, .inl (upd (σ.1 4) i v)))) H) : va_P D vwCl (wM ad cA (sI σ 4 i v)) H := h
theorem wMsD4 {ad : Nat → Nat} {cA : Nat → ClassId} {σ : Sto} {A : Nat → Prop} {i : Nat} {v : Int32} (h : va_D A ((wM ad cA σ).set 4 (ad 4, .inl (cA 0, 132, .inl (upd (σ.1 4) i v))))) : va_D A (wM ad cA (sI σ 4 i v)) := h
theorem wMg5 {ad : Nat → Nat} {cA : Nat → ClassId} {σ : Sto} : (wM ad cA σ)[5]? = some (ad 5, .inl (cA 2, 132, .inl (σ.1 5))) := rfl
theorem wMsP5 {D : va_G} {ad : Nat → Nat} {cA : Nat → ClassId} {σ : Sto} {H : Heap} {i : Nat} {v : Int32} (h : va_P D vwCl ((wM ad cA σ).set 5 (ad 5, .inl (cA 2, 132, .inl (upd (σ.1 5) i v)))) H) : va_P D vwCl (wM ad cA (sI σ 5 i v)) H := h
theorem wMsD5 {ad : Nat → Nat} {cA : Nat → ClassId} {σ : Sto} {A : Nat → Prop} {i : Nat} {v : Int32} (h : va_D A ((wM ad cA σ).set 5 (ad 5, .inl (cA 2, 132, .inl (upd (σ.1 5) i v))))) : va_D A (wM ad cA (sI σ 5 i v)) := h
theorem wMg6 {ad : Nat → Nat} {cA : Nat → ClassId} {σ : Sto} : (wM ad cA σ)[6]? = some (ad 6, .inl (cA 0, 12, .inl (σ.1 6))) := rfl
theorem wMsP6 {D : va_G} {ad : Nat → Nat} {cA : Nat → ClassId} {σ : Sto} {H : Heap} {i : Nat} {v : Int32} (h : va_P D vwCl ((wM ad cA σ).set 6 (ad 6, .inl (cA 0, 12, .inl (upd (σ.1 6) i v)))) H) : va_P D vwCl (wM ad cA (sI σ 6 i v)) H := h
theorem wMsD6 {ad : Nat → Nat} {cA : Nat → ClassId} {σ : Sto} {A : Nat → Prop} {i : Nat} {v : Int32} (h : va_D A ((wM ad cA σ).set 6 (ad 6, .inl (cA 0, 12, .inl (upd (σ.1 6) i v))))) : va_D A (wM ad cA (sI σ 6 i v)) := h
theorem wMg7 {ad : Nat → Nat} {cA : Nat → ClassId} {σ : Sto} : (wM ad cA σ)[7]? = some (ad 7, .inl (cA 0, 11, .inl (σ.1 7))) := rfl
theorem wMsP7 {D : va_G} {ad : Nat → Nat} {cA : Nat → ClassId} {σ : Sto} {H : Heap} {i : Nat} {v : Int32} (h : va_P D vwCl ((wM ad cA σ).set 7 (ad 7, .inl (cA 0, 11, .inl (upd (σ.1 7) i v)))) H) : va_P D vwCl (wM ad cA (sI σ 7 i v)) H := h
theorem wMsD7 {ad : Nat → Nat} {cA : Nat → ClassId} {σ : Sto} {A : Nat → Prop} {i : Nat} {v : Int32} (h : va_D A ((wM ad cA σ).set 7 (ad 7, .inl (cA 0, 11, .inl (upd (σ.1 7) i v))))) : va_D A (wM ad cA (sI σ 7 i v)) := h
theorem wMg8 {ad : Nat → Nat} {cA : Nat → ClassId} {σ : Sto} : (wM ad cA σ)[8]? = some (ad 8, .inl (cA 1, 1584, .inr (.inl (σ.2 8)))) := rfl
theorem wMsP8 {D : va_G} {ad : Nat → Nat} {cA : Nat → ClassId} {σ : Sto} {H : Heap} {i : Nat} {v : Int64} (h : va_P D vwCl ((wM ad cA σ).set 8 (ad 8, .inl (cA 1, 1584, .inr (.inl (vp_updL (σ.2 8) i v))))) H) : va_P D vwCl (wM ad cA (sJ σ 8 i v)) H := h
theorem wMsD8 {ad : Nat → Nat} {cA : Nat → ClassId} {σ : Sto} {A : Nat → Prop} {i : Nat} {v : Int64} (h : va_D A ((wM ad cA σ).set 8 (ad 8, .inl (cA 1, 1584, .inr (.inl (vp_updL (σ.2 8) i v)))))) : va_D A (wM ad cA (sJ σ 8 i v)) := h
theorem wMg9 {ad : Nat → Nat} {cA : Nat → ClassId} {σ : Sto} : (wM ad cA σ)[9]? = some (ad 9, .inl (cA 1, 1584, .inr (.inl (σ.2 9)))) := rfl
theorem wMsP9 {D : va_G} {ad : Nat → Nat} {cA : Nat → ClassId} {σ : Sto} {H : Heap} {i : Nat} {v : Int64} (h : va_P D vwCl ((wM ad cA σ).set 9 (ad 9, .inl (cA 1, 1584, .inr (.inl (vp_updL (σ.2 9) i v))))) H) : va_P D vwCl (wM ad cA (sJ σ 9 i v)) H := h
theorem wMsD9 {ad : Nat → Nat} {cA : Nat → ClassId} {σ : Sto} {A : Nat → Prop} {i : Nat} {v : Int64} (h : va_D A ((wM ad cA σ).set 9 (ad 9, .inl (cA 1, 1584, .inr (.inl (vp_updL (σ.2 9) i v)))))) : va_D A (wM ad cA (sJ σ 9 i v)) := h
theorem wMg10 {ad : Nat → Nat} {cA : Nat → ClassId} {σ : Sto} : (wM ad cA σ)[10]? = some (ad 10, .inl (cA 2, 11, .inl (σ.1 10))) := rfl
theorem wMsP10 {D : va_G} {ad : Nat → Nat} {cA : Nat → ClassId} {σ : Sto} {H : Heap} {i : Nat} {v : Int32} (h : va_P D vwCl ((wM ad cA σ).set 10 (ad 10, .inl (cA 2, 11, .inl (upd (σ.1 10) i v)))) H) : va_P D vwCl (wM ad cA (sI σ 10 i v)) H := h
theorem wMsD10 {ad : Nat → Nat} {cA : Nat → ClassId} {σ : Sto} {A : Nat → Prop} {i : Nat} {v : Int32} (h : va_D A ((wM ad cA σ).set 10 (ad 10, .inl (cA 2, 11, .inl (upd (σ.1 10) i v))))) : va_D A (wM ad cA (sI σ 10 i v)) := h
theorem wMg11 {ad : Nat → Nat} {cA : Nat → ClassId} {σ : Sto} : (wM ad cA σ)[11]? = some (ad 11, .inl (cA 2, 12, .inl (σ.1 11))) := rfl
theorem wMsP11 {D : va_G} {ad : Nat → Nat} {cA : Nat → ClassId} {σ : Sto} {H : Heap} {i : Nat} {v : Int32} (h : va_P D vwCl ((wM ad cA σ).set 11 (ad 11, .inl (cA 2, 12, .inl (upd (σ.1 11) i v)))) H) : va_P D vwCl (wM ad cA (sI σ 11 i v)) H := h
theorem wMsD11 {ad : Nat → Nat} {cA : Nat → ClassId} {σ : Sto} {A : Nat → Prop} {i : Nat} {v : Int32} (h : va_D A ((wM ad cA σ).set 11 (ad 11, .inl (cA 2, 12, .inl (upd (σ.1 11) i v))))) : va_D A (wM ad cA (sI σ 11 i v)) := h
theorem wMg12 {ad : Nat → Nat} {cA : Nat → ClassId} {σ : Sto} : (wM ad cA σ)[12]? = some (ad 12, .inl (cA 2, 12, .inl (σ.1 12))) := rfl
theorem wMsP12 {D : va_G} {ad : Nat → Nat} {cA : Nat → ClassId} {σ : Sto} {H : Heap} {i : Nat} {v : Int32} (h : va_P D vwCl ((wM ad cA σ).set 12 (ad 12, .inl (cA 2, 12, .inl (upd (σ.1 12) i v)))) H) : va_P D vwCl (wM ad cA (sI σ 12 i v)) H := h
theorem wMsD12 {ad : Nat → Nat} {cA : Nat → ClassId} {σ : Sto} {A : Nat → Prop} {i : Nat} {v : Int32} (h : va_D A ((wM ad cA σ).set 12 (ad 12, .inl (cA 2, 12, .inl (upd (σ.1 12) i v))))) : va_D A (wM ad cA (sI σ 12 i v)) := h
theorem wMg13 {ad : Nat → Nat} {cA : Nat → ClassId} {σ : Sto} : (wM ad cA σ)[13]? = some (ad 13, .inl (cA 0, 132, .inl (σ.1 13))) := rfl
theorem wMsP13 {D : va_G} {ad : Nat → Nat} {cA : Nat → ClassId} {σ : Sto} {H : Heap} {i : Nat} {v : Int32} (h : va_P D vwCl ((wM ad cA σ).set 13 (ad 13, .inl (cA 0, 132, .inl (upd (σ.1 13) i v)))) H) : va_P D vwCl (wM ad cA (sI σ 13 i v)) H := h
theorem wMsD13 {ad : Nat → Nat} {cA : Nat → ClassId} {σ : Sto} {A : Nat → Prop} {i : Nat} {v : Int32} (h : va_D A ((wM ad cA σ).set 13 (ad 13, .inl (cA 0, 132, .inl (upd (σ.1 13) i v))))) : va_D A (wM ad cA (sI σ 13 i v)) := h
theorem wMg14 {ad : Nat → Nat} {cA : Nat → ClassId} {σ : Sto} : (wM ad cA σ)[14]? = some (ad 14, .inl (cA 1, 144, .inr (.inl (σ.2 14)))) := rfl
theorem wMsP14 {D : va_G} {ad : Nat → Nat} {cA : Nat → ClassId} {σ : Sto} {H : Heap} {i : Nat} {v : Int64} (h : va_P D vwCl ((wM ad cA σ).set 14 (ad 14, .inl (cA 1, 144, .inr (.inl (vp_updL (σ.2 14) i v))))) H) : va_P D vwCl (wM ad cA (sJ σ 14 i v)) H := h
theorem wMsD14 {ad : Nat → Nat} {cA : Nat → ClassId} {σ : Sto} {A : Nat → Prop} {i : Nat} {v : Int64} (h : va_D A ((wM ad cA σ).set 14 (ad 14, .inl (cA 1, 144, .inr (.inl (vp_updL (σ.2 14) i v)))))) : va_D A (wM ad cA (sJ σ 14 i v)) := h
theorem wMg15 {ad : Nat → Nat} {cA : Nat → ClassId} {σ : Sto} : (wM ad cA σ)[15]? = some (ad 15, .inl (cA 1, 144, .inr (.inl (σ.2 15)))) := rfl
theorem wMsP15 {D : va_G} {ad : Nat → Nat} {cA : Nat → ClassId} {σ : Sto} {H : Heap} {i : Nat} {v : Int64} (h : va_P D vwCl ((wM ad cA σ).set 15 (ad 15, .inl (cA 1, 144, .inr (.inl (vp_updL (σ.2 15) i v))))) H) : va_P D vwCl (wM ad cA (sJ σ 15 i v)) H := h
theorem wMsD15 {ad : Nat → Nat} {cA : Nat → ClassId} {σ : Sto} {A : Nat → Prop} {i : Nat} {v : Int64} (h : va_D A ((wM ad cA σ).set 15 (ad 15, .inl (cA 1, 144, .inr (.inl (vp_updL (σ.2 15) i v)))))) : va_D A (wM ad cA (sJ σ 15 i v)) := h
theorem wMg16 {ad : Nat → Nat} {cA : Nat → ClassId} {σ : Sto} : (wM ad cA σ)[16]? = some (ad 16, .inl (cA 0, 132, .inl (σ.1 16))) := rfl
theorem wMsP16 {D : va_G} {ad : Nat → Nat} {cA : Nat → ClassId} {σ : Sto} {H : Heap} {i : Nat} {v : Int32} (h : va_P D vwCl ((wM ad cA σ).set 16 (ad 16, .inl (cA 0, 132, .inl (upd (σ.1 16) i v)))) H) : va_P D vwCl (wM ad cA (sI σ 16 i v)) H := h
theorem wMsD16 {ad : Nat → Nat} {cA : Nat → ClassId} {σ : Sto} {A : Nat → Prop} {i : Nat} {v : Int32} (h : va_D A ((wM ad cA σ).set 16 (ad 16, .inl (cA 0, 132, .inl (upd (σ.1 16) i v))))) : va_D A (wM ad cA (sI σ 16 i v)) := h
theorem wMg17 {ad : Nat → Nat} {cA : Nat → ClassId} {σ : Sto} : (wM ad cA σ)[17]? = some (ad 17, .inl (cA 0, 132, .inl (σ.1 17))) := rfl
theorem wMsP17 {D : va_G} {ad : Nat → Nat} {cA : Nat → ClassId} {σ : Sto} {H : Heap} {i : Nat} {v : Int32} (h : va_P D vwCl ((wM ad cA σ).set 17 (ad 17, .inl (cA 0, 132, .inl (upd (σ.1 17) i v)))) H) : va_P D vwCl (wM ad cA (sI σ 17 i v)) H := h
theorem wMsD17 {ad : Nat → Nat} {cA : Nat → ClassId} {σ : Sto} {A : Nat → Prop} {i : Nat} {v : Int32} (h : va_D A ((wM ad cA σ).set 17 (ad 17, .inl (cA 0, 132, .inl (upd (σ.1 17) i v))))) : va_D A (wM ad cA (sI σ 17 i v)) := h
theorem wMg18 {ad : Nat → Nat} {cA : Nat → ClassId} {σ : Sto} : (wM ad cA σ)[18]? = some (ad 18, .inl (cA 0, 3, .inl (σ.1 18))) := rfl
theorem wMsP18 {D : va_G} {ad : Nat → Nat} {cA : Nat → ClassId} {σ : Sto} {H : Heap} {i : Nat} {v : Int32} (h : va_P D vwCl ((wM ad cA σ).set 18 (ad 18, .inl (cA 0, 3, .inl (upd (σ.1 18) i v)))) H) : va_P D vwCl (wM ad cA (sI σ 18 i v)) H := h
theorem wMsD18 {ad : Nat → Nat} {cA : Nat → ClassId} {σ : Sto} {A : Nat → Prop} {i : Nat} {v : Int32} (h : va_D A ((wM ad cA σ).set 18 (ad 18, .inl (cA 0, 3, .inl (upd (σ.1 18) i v))))) : va_D A (wM ad cA (sI σ 18 i v)) := h
theorem wMg19 {ad : Nat → Nat} {cA : Nat → ClassId} {σ : Sto} : (wM ad cA σ)[19]? = some (ad 19, .inl (cA 0, 3, .inl (σ.1 19))) := rfl
theorem wMsP19 {D : va_G} {ad : Nat → Nat} {cA : Nat → ClassId} {σ : Sto} {H : Heap} {i : Nat} {v : Int32} (h : va_P D vwCl ((wM ad cA σ).set 19 (ad 19, .inl (cA 0, 3, .inl (upd (σ.1 19) i v)))) H) : va_P D vwCl (wM ad cA (sI σ 19 i v)) H := h
theorem wMsD19 {ad : Nat → Nat} {cA : Nat → ClassId} {σ : Sto} {A : Nat → Prop} {i : Nat} {v : Int32} (h : va_D A ((wM ad cA σ).set 19 (ad 19, .inl (cA 0, 3, .inl (upd (σ.1 19) i v))))) : va_D A (wM ad cA (sI σ 19 i v)) := h
theorem wXcP {D : va_G} {ad : Nat → Nat} {cA : Nat → ClassId} {σ : Sto} {H : Heap} {n : Nat} (h : va_P D vwCl ((wX ad cA σ).set 23 (ad 23, .inl (cA 0, 3, .inl (va_cpy (σ.1 22) (σ.1 23) (0 : Int32).toNatClampNeg (0 : Int32).toNatClampNeg n)))) H) : va_P D vwCl (wX ad cA (cpyS σ 22 23 n)) H := h
theorem wXcD {ad : Nat → Nat} {cA : Nat → ClassId} {σ : Sto} {A : Nat → Prop} {n : Nat} (h : va_D A ((wX ad cA σ).set 23 (ad 23, .inl (cA 0, 3, .inl (va_cpy (σ.1 22) (σ.1 23) (0 : Int32).toNatClampNeg (0 : Int32).toNatClampNeg n))))) : va_D A (wX ad cA (cpyS σ 22 23 n)) := h
