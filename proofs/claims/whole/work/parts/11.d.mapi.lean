/-! since, split, count, paths, weigh, weight, top, bottom, score -/
def hSince (g : GS) (t : Int32) : Nat → Bool := fun k => if k < gc g then decide (¬ gtm g k < t) else ghid g k
def gSince (g : GS) (t : Int32) : GS := gHid g (hSince g t)
def rSince (g : GS) (t : Int32) : Int32 := nI (cnt (gc g) (hSince g t))
theorem mSince_ok {σ : Sto} {g : GS} {t : Int32} {Post : Int32 → Sto → Prop} (h : MI σ g) (hp : ∀ σ' : Sto, MI σ' (gSince g t) → Post (rSince g t) σ') : X8_since_wp σ t Post := by
  have hc := h.2.2.2.2.2.2.2.c_le
  intro K hK
  refine changed_ok (fun τ q1 q2 q3 => ?_)
  have loop : ∀ j i, i + j = gc g → ∀ υ : Sto, υ.2 = σ.2 → (∀ k, k ≠ 5 → k ≠ 10 → υ.1 k = σ.1 k) → (∀ k, k < 11 → υ.1 10 k = 0) → (∀ k, k < 132 → υ.1 5 k = b2i (if k < i then decide (¬ gtm g k < t) else ghid g k)) → K υ (nI i) := by
    intro j
    induction j with
    | zero =>
      intro i hi υ u2 u1 u10 u5
      have hi : i = gc g := hi
      subst hi
      apply hK
      unfold X8_since_b6
      have e7 : υ.1 0 7 = nI (gc g) := by rw [u1 0 (by decide) (by decide)]; exact h.2.2.2.1
      rw [e7]
      refine pk_le (gc g) (gc g) (fun _ => ?_) (fun z => by omega)
      refine hiddenOnes_ok (hid := hSince g t) e7 hc u5 (hp υ ?_)
      exact h.hidden (fun j _ => by rw [u1 0 (by decide) (by decide)]) (fun k h1 h2 h3 => u1 k h2 h3) u5 u10 u2
    | succ j ih =>
      intro i hi υ u2 u1 u10 u5
      apply hK
      unfold X8_since_b6
      have e7 : υ.1 0 7 = nI (gc g) := by rw [u1 0 (by decide) (by decide)]; exact h.2.2.2.1
      have e4 : υ.1 4 i = gtm g i := by rw [u1 4 (by decide) (by decide)]; exact h.2.2.2.2.1 i (by omega)
      rw [e7, nI_clamp (by omega), e4, nI_1]
      have v1 : vp_in (nI i) 132 := vp_in_nI (by omega) (by decide)
      have next : ∀ u : Bool, u = decide (¬ gtm g i < t) → K (sI υ 5 i (b2i u)) (nI (i + 1)) := by
        intro u hu
        refine ih (i + 1) (by omega) _ u2 (fun k h1 h2 => by rw [sI_o _ _ _ h1]; exact u1 k h1 h2) (fun k hk => by rw [sI_o _ _ _ (by decide)]; exact u10 k hk) (fun k hk => ?_)
        by_cases z : k = i
        · subst z
          rw [sI_e, if_pos (Nat.lt_succ_self k), hu]
        · rw [sI_n _ _ _ z, u5 k hk]
          by_cases y : k < i
          · rw [if_pos y, if_pos (by omega)]
          · rw [if_neg y, if_neg (by omega)]
      refine pk_le (gc g) i (fun z => by omega) (fun z => ⟨v1, fun c => ⟨v1, ?_⟩, fun c => ⟨v1, ?_⟩⟩)
      · exact next false (by rw [decide_eq_false]; exact fun q => q c)
      · exact next true (by rw [decide_eq_true]; exact c)
  refine loop (gc g) 0 (by omega) τ q1 (fun k h1 h2 => q2 k h2) q3 (fun k hk => ?_)
  rw [q2 5 (by decide), if_neg (by omega)]
  exact h.1.1.2.2.2.2.2.2 k hk
/-- a row of draws -/
def zsq (seed : Int32) : Nat → Int32
  | 0 => seed
  | k + 1 => (1664525 : Int32) * zsq seed k + (1013904223 : Int32)
def drw (seed : Int32) (k : Nat) : Int32 := ((zsq seed (k + 1)).toUInt32 >>> (((8 : Int32)).toUInt32 &&& Int32.toUInt32 31)).toInt32
def okSplit (q r : Int32) : Bool := decide (¬ q < 1 ∧ ¬ 20 < q ∧ ¬ r < 0 ∧ r < q)
def hSplit (g : GS) (seed q r : Int32) : Nat → Bool := fun k => if k < gc g then decide (drw seed k - drw seed k / q * q = r) else ghid g k
def gSplit (g : GS) (seed q r : Int32) : GS := if okSplit q r then gHid g (hSplit g seed q r) else g
def rSplit (g : GS) (seed q r : Int32) : Int32 := if okSplit q r then nI (cnt (gc g) (hSplit g seed q r)) else -2
theorem mSplit_ok {σ : Sto} {g : GS} {seed q r : Int32} {Post : Int32 → Sto → Prop} (h : MI σ g) (hp : ∀ σ' : Sto, MI σ' (gSplit g seed q r) → Post (rSplit g seed q r) σ') : X8_split_wp σ seed q r Post := by
  have hc := h.2.2.2.2.2.2.2.c_le
  intro K hK
  have bad : okSplit q r = false → Post (-2 : Int32) σ := by
    intro z
    unfold gSplit rSplit at hp
    rw [z] at hp
    exact hp σ h
  refine ⟨fun c => bad (decide_eq_false (fun z => z.1 c)), fun c1 => ⟨fun c => bad (decide_eq_false (fun z => z.2.1 c)), fun c2 => ⟨fun c => bad (decide_eq_false (fun z => z.2.2.1 c)), fun c3 => ⟨fun c4 => ?_, fun c => bad (decide_eq_false (fun z => c z.2.2.2))⟩⟩⟩⟩
  have hok : okSplit q r = true := decide_eq_true ⟨c1, c2, c3, c4⟩
  unfold gSplit rSplit at hp
  rw [hok, if_pos rfl, if_pos rfl] at hp
  have q0 : ¬ q = 0 := fun z => c1 (by rw [z]; decide)
  refine changed_ok (fun τ q1 q2 q3 => ?_)
  have loop : ∀ j i, i + j = gc g → ∀ υ : Sto, υ.2 = σ.2 → (∀ k, k ≠ 0 → k ≠ 5 → k ≠ 10 → υ.1 k = σ.1 k) → (∀ j, j ≠ 18 → υ.1 0 j = σ.1 0 j) → υ.1 0 18 = zsq seed i → (∀ k, k < 11 → υ.1 10 k = 0) → (∀ k, k < 132 → υ.1 5 k = b2i (if k < i then decide (drw seed k - drw seed k / q * q = r) else ghid g k)) → K υ (nI i) := by
    intro j
    induction j with
    | zero =>
      intro i hi υ u2 u1 u0 uz u10 u5
      have hi : i = gc g := hi
      subst hi
      apply hK
      unfold X8_split_b35
      have e7 : υ.1 0 7 = nI (gc g) := by rw [u0 7 (by decide)]; exact h.2.2.2.1
      rw [e7]
      refine pk_le (gc g) (gc g) (fun _ => ?_) (fun z => by omega)
      refine hiddenOnes_ok (hid := hSplit g seed q r) e7 hc u5 (hp υ ?_)
      exact h.hidden u0 u1 u5 u10 u2
    | succ j ih =>
      intro i hi υ u2 u1 u0 uz u10 u5
      apply hK
      unfold X8_split_b35
      have e7 : υ.1 0 7 = nI (gc g) := by rw [u0 7 (by decide)]; exact h.2.2.2.1
      rw [e7]
      have v1 : vp_in (nI i) 132 := vp_in_nI (by omega) (by decide)
      refine pk_le (gc g) i (fun z => by omega) (fun z => ?_)
      unfold X8_draw_wp
      rw [uz, nI_clamp (by omega), nI_1]
      refine ⟨q0, ?_⟩
      have next : ∀ u : Bool, u = decide (drw seed i - drw seed i / q * q = r) → K (sI (sI υ 0 18 (zsq seed (i + 1))) 5 i (b2i u)) (nI (i + 1)) := by
        intro u hu
        refine ih (i + 1) (by omega) _ u2 (fun k h0 h1 h2 => by rw [sI_o _ _ _ h1, sI_o _ _ _ h0]; exact u1 k h0 h1 h2) (fun k h1 => by rw [sI_o _ _ _ (by decide), sI_n _ _ _ h1]; exact u0 k h1) (by rw [sI_o _ _ _ (by decide), sI_e]) (fun k hk => by rw [sI_o _ _ _ (by decide), sI_o _ _ _ (by decide)]; exact u10 k hk) (fun k hk => ?_)
        by_cases z : k = i
        · subst z
          rw [sI_e, if_pos (Nat.lt_succ_self k), hu]
        · rw [sI_n _ _ _ z, sI_o _ _ _ (by decide), u5 k hk]
          by_cases y : k < i
          · rw [if_pos y, if_pos (by omega)]
          · rw [if_neg y, if_neg (by omega)]
      refine ⟨fun c => ⟨v1, ?_⟩, fun c => ⟨v1, ?_⟩⟩
      · exact next false (by rw [decide_eq_false]; exact c)
      · exact next true (by rw [decide_eq_true]; exact c)
  refine loop (gc g) 0 (by omega) _ q1 (fun k h0 h1 h2 => by rw [sI_o _ _ _ h0]; exact q2 k h2) (fun j hj => by rw [sI_n _ _ _ hj, q2 0 (by decide)]) (by rw [sI_e]; rfl) (fun k hk => by rw [sI_o _ _ _ (by decide)]; exact q3 k hk) (fun k hk => ?_)
  rw [sI_o _ _ _ (by decide), q2 5 (by decide), if_neg (by omega)]
  exact h.1.1.2.2.2.2.2.2 k hk
/-! count -/
def rCount (g : GS) (k : Int32) : Int32 := if k = 0 then nI (gN g) else if k = 1 then nI (cnt 144 (isPr (gN g) (gS g))) else if k = 2 then nI (gc g) else if k = 3 then nI (cnt (gc g) (ghid g)) else if k = 4 then nI (cnt 144 (gC g)) else -2
theorem mCount_ok {σ : Sto} {g : GS} {k : Int32} {Post : Int32 → Sto → Prop} (h : MI σ g) (hp : ∀ σ' : Sto, MI σ' g → Post (rCount g k) σ') : X8_count_wp σ k Post := by
  unfold X8_count_wp
  unfold rCount at hp
  refine ⟨fun e => ?_, fun e => ?_, fun e => ?_, fun e => ?_, fun e => ?_, fun e0 e1 e2 e3 e4 => ?_⟩
  · subst e
    rw [h.1.1.1]
    exact hp σ h
  · subst e
    exact pairs_ok h.1.1 (hp σ h)
  · subst e
    rw [h.2.2.2.1]
    exact hp σ h
  · subst e
    exact hiddenOnes_ok h.2.2.2.1 h.2.2.2.2.2.2.2.c_le h.1.1.2.2.2.2.2.2 (hp σ h)
  · subst e
    exact rank_ok h.1 h.2.1 h.2.2.1 (fun τ kr ca _ _ => hp τ (h.ks kr.ks ca))
  · rw [if_neg e0, if_neg e1, if_neg e2, if_neg e3, if_neg e4] at hp
    exact hp σ h
/-! paths -/
def okPaths (v w s : Int32) : Bool := decide (¬ v < 0 ∧ ¬ 9 < v ∧ ¬ w < 0 ∧ ¬ 9 < w ∧ ¬ s < 1 ∧ s ≤ 2)
theorem sm {x : Int32} {n : Nat} (h0 : ¬ x < 0) (h : ¬ nI n < x) (hn : n < 2 ^ 31) : x = nI (nn x) ∧ nn x ≤ n := by
  obtain ⟨j, hj, e⟩ := nI_of h0
  have ej : nn x = j := by unfold nn; rw [e, nI_clamp hj]
  rw [ej]
  rw [e] at h
  have : ¬ n < j := fun q => h ((nI_ltI hn hj).mpr q)
  exact ⟨e, by omega⟩
theorem okPaths_spec {v w s : Int32} (h : okPaths v w s = true) : v = nI (nn v) ∧ nn v ≤ 9 ∧ w = nI (nn w) ∧ nn w ≤ 9 ∧ s = nI (nn s) ∧ (nn s = 1 ∨ nn s = 2) := by
  have h := of_decide_eq_true h
  obtain ⟨h1, h2, h3, h4, h5, h6⟩ := h
  obtain ⟨a1, a2⟩ := sm (n := 9) h1 h2 (by omega)
  obtain ⟨b1, b2⟩ := sm (n := 9) h3 h4 (by omega)
  have s0 : ¬ s < 0 := fun q => h5 (by
    rw [Int32.lt_iff_toInt_lt] at q ⊢
    have : (1 : Int32).toInt = 1 := rfl
    have : (0 : Int32).toInt = 0 := rfl
    omega)
  obtain ⟨j, hj, e⟩ := nI_of s0
  have ej : nn s = j := by unfold nn; rw [e, nI_clamp hj]
  rw [e] at h5 h6
  have q1 : ¬ j < 1 := fun q => h5 ((nI_ltI (b := 1) hj (by omega)).mpr q)
  have q2 : j ≤ 2 := (nI_leI (b := 2) hj (by omega)).mp h6
  rw [ej]
  exact ⟨a1, a2, b1, b2, e, by omega⟩
def gPaths (g : GS) (v w s : Int32) : GS := if okPaths v w s then gmk (gN g) (gS g) (gc g) (gar g) (gpo g) (ghid g) (gtm g) (ggrp g) (gwt g) (nn v) (nn w) (nn s) (gbt g) (gbb g) else g
def rPaths (v w s : Int32) : Int32 := if okPaths v w s then 1 else -2
theorem mPaths_ok {σ : Sto} {g : GS} {v w s : Int32} {Post : Int32 → Sto → Prop} (h : MI σ g) (hp : ∀ σ' : Sto, MI σ' (gPaths g v w s) → Post (rPaths v w s) σ') : X8_paths_wp σ v w s Post := by
  have bad : okPaths v w s = false → Post (-2 : Int32) σ := by
    intro z
    unfold gPaths rPaths at hp
    rw [z] at hp
    exact hp σ h
  unfold X8_paths_wp
  refine ⟨fun c => bad (decide_eq_false (fun z => z.1 c)), fun c1 => ⟨fun c => bad (decide_eq_false (fun z => z.2.1 c)), fun c2 => ⟨fun c => bad (decide_eq_false (fun z => z.2.2.1 c)), fun c3 => ⟨fun c => bad (decide_eq_false (fun z => z.2.2.2.1 c)), fun c4 => ⟨fun c => bad (decide_eq_false (fun z => z.2.2.2.2.1 c)), fun c5 => ⟨fun c6 => ?_, fun c => bad (decide_eq_false (fun z => c z.2.2.2.2.2))⟩⟩⟩⟩⟩⟩
  have hok : okPaths v w s = true := decide_eq_true ⟨c1, c2, c3, c4, c5, c6⟩
  obtain ⟨e1, e2, e3, e4, e5, e6⟩ := okPaths_spec hok
  unfold gPaths rPaths at hp
  rw [hok, if_pos rfl, if_pos rfl] at hp
  refine changed_ok (fun τ q1 q2 q3 => ?_)
  refine hp _ ⟨⟨h.1.1.same ?_ ?_ ?_ ?_, ?_, ⟨?_, e2, ?_, e4, ?_, e6⟩, h.1.2.2.2⟩, MCa.none (fun k hk => ?_), ?_, ?_, fun k hk => ?_, ?_, ?_, h.2.2.2.2.2.2.2⟩
  · simp [sI, q2 0 (by decide)]
  · simp [sI, q2 0 (by decide)]
  · simp [sI, q2 1 (by decide)]
  · simp [sI, q2 5 (by decide)]
  · have := h.1.2.1
    show MGrp _ (ggrp g)
    unfold MGrp at this ⊢
    rw [sI_o _ _ _ (by decide), sI_o _ _ _ (by decide), sI_o _ _ _ (by decide), q2 6 (by decide)]
    exact this
  · rw [sI_n _ _ _ (by decide), sI_n _ _ _ (by decide), sI_e]
    exact e1
  · rw [sI_n _ _ _ (by decide), sI_e]
    exact e3
  · rw [sI_e]
    exact e5
  · rw [sI_o _ _ _ (by decide), sI_o _ _ _ (by decide), sI_o _ _ _ (by decide)]
    exact q3 k hk
  · have := h.2.2.1
    show MWt _ (gwt g)
    unfold MWt at this ⊢
    rw [sI_o _ _ _ (by decide), sI_o _ _ _ (by decide), sI_o _ _ _ (by decide), q2 7 (by decide)]
    exact this
  · rw [sI_n _ _ _ (by decide), sI_n _ _ _ (by decide), sI_n _ _ _ (by decide), q2 0 (by decide)]
    exact h.2.2.2.1
  · rw [sI_o _ _ _ (by decide), sI_o _ _ _ (by decide), sI_o _ _ _ (by decide), q2 4 (by decide)]
    exact h.2.2.2.2.1 k hk
  · show τ.2 0 16 = _
    rw [q1]
    exact h.2.2.2.2.2.1
  · show τ.2 0 17 = _
    rw [q1]
    exact h.2.2.2.2.2.2.1
/-! weigh, weight -/
def okMeas (k : Int32) : Bool := decide (¬ k < 0 ∧ ¬ 10 < k)
def okW (w : Int32) : Bool := decide (¬ w < -99 ∧ w ≤ 99)
theorem okMeas_spec {k : Int32} (h : okMeas k = true) : k = nI (nn k) ∧ nn k ≤ 10 := by
  have h := of_decide_eq_true h
  exact sm (n := 10) h.1 h.2 (by omega)
theorem okW_spec {w : Int32} (h : okW w = true) : w = iz w.toInt ∧ -99 ≤ w.toInt ∧ w.toInt ≤ 99 := by
  have h := of_decide_eq_true h
  rw [Int32.lt_iff_toInt_lt, Int32.le_iff_toInt_le] at h
  have e1 : (-99 : Int32).toInt = -99 := by decide
  have e2 : (99 : Int32).toInt = 99 := by decide
  rw [e1, e2] at h
  refine ⟨?_, by omega, by omega⟩
  unfold iz
  rw [Int32.ofInt_toInt]
theorem isMeas_ok {σ : Sto} {k : Int32} {Post : Int32 → Sto → Prop} (hp : Post (b2i (okMeas k)) σ) : X8_isMeasure_wp σ k Post := by
  unfold X8_isMeasure_wp
  unfold okMeas at hp
  refine ⟨fun c => ?_, fun c1 => ⟨fun c => ?_, fun c2 => ?_⟩⟩
  · rw [decide_eq_false (fun z => z.1 c)] at hp
    exact hp
  · rw [decide_eq_false (fun z => z.2 c)] at hp
    exact hp
  · rw [decide_eq_true ⟨c1, c2⟩] at hp
    exact hp
def gWt (g : GS) (wt : Nat → Int) : GS := gmk (gN g) (gS g) (gc g) (gar g) (gpo g) (ghid g) (gtm g) (ggrp g) wt (gv g) (gw g) (gs g) (gbt g) (gbb g)
def gWeigh (g : GS) (k w : Int32) : GS := if okMeas k = true ∧ okW w = true then gWt g (upN (gwt g) (nn k) w.toInt) else g
def rWeigh (g : GS) (k w : Int32) : Int32 := if okMeas k = true ∧ okW w = true then iz (gwt g (nn k)) + 100 else -2
def rWeight (g : GS) (k : Int32) : Int32 := if okMeas k then iz (gwt g (nn k)) + 100 else -2
theorem MI.wts {σ τ : Sto} {g : GS} {wt : Nat → Int} (h : MI σ g) (k : ∀ j, j ≠ 7 → τ.1 j = σ.1 j) (k2 : τ.2 = σ.2) (kw : MWt τ.1 wt) : MI τ (gWt g wt) := by
  obtain ⟨a1, a2, a3, a4, a5, a6, a7, a8⟩ := h
  refine ⟨a1.kp (k 0 (by decide)) (k 1 (by decide)) (k 5 (by decide)) (k 6 (by decide)), a2.cong (k 10 (by decide)) (by rw [k2]) (by rw [k2]), kw, ?_, ?_, ?_, ?_, a8⟩
  · rw [k 0 (by decide)]; exact a4
  · rw [k 4 (by decide)]; exact a5
  · rw [k2]; exact a6
  · rw [k2]; exact a7
theorem mWeigh_ok {σ : Sto} {g : GS} {k w : Int32} {Post : Int32 → Sto → Prop} (h : MI σ g) (hp : ∀ σ' : Sto, MI σ' (gWeigh g k w) → Post (rWeigh g k w) σ') : X8_weigh_wp σ k w Post := by
  have bad : ¬ (okMeas k = true ∧ okW w = true) → Post (-2 : Int32) σ := by
    intro z
    unfold gWeigh rWeigh at hp
    rw [if_neg z, if_neg z] at hp
    exact hp σ h
  unfold X8_weigh_wp
  refine isMeas_ok (b2i_fi _ (fun hk => ?_) (fun hk => bad (fun z => by rw [hk] at z; exact absurd z.1 (by decide))))
  refine ⟨fun c => bad (fun z => (of_decide_eq_true z.2).1 c), fun c1 => ⟨fun c2 => ?_, fun c => bad (fun z => c (of_decide_eq_true z.2).2)⟩⟩
  have hw : okW w = true := decide_eq_true ⟨c1, c2⟩
  obtain ⟨e1, e2⟩ := okMeas_spec hk
  obtain ⟨f1, f2, f3⟩ := okW_spec hw
  unfold gWeigh rWeigh at hp
  rw [if_pos ⟨hk, hw⟩, if_pos ⟨hk, hw⟩] at hp
  generalize nn k = i at *
  rw [e1, nI_clamp (by omega), (h.2.2.1 i (by omega)).1]
  have v1 : vp_in (nI i) 11 := vp_in_nI (by omega) (by decide)
  refine ⟨v1, v1, hp _ (h.wts (fun j hj => sI_o _ _ _ hj) rfl (fun j hj => ?_))⟩
  by_cases z : j = i
  · subst z
    rw [sI_e, upN_e]
    exact ⟨f1, f2, f3⟩
  · rw [sI_n _ _ _ z, upN_n _ _ z]
    exact h.2.2.1 j hj
theorem mWeight_ok {σ : Sto} {g : GS} {k : Int32} {Post : Int32 → Sto → Prop} (h : MI σ g) (hp : ∀ σ' : Sto, MI σ' g → Post (rWeight g k) σ') : X8_weight_wp σ k Post := by
  unfold X8_weight_wp
  have hp := hp σ h
  unfold rWeight at hp
  refine isMeas_ok (b2i_fi _ (fun hk => ?_) (fun hk => ?_))
  · rw [hk, if_pos rfl] at hp
    obtain ⟨e1, e2⟩ := okMeas_spec hk
    generalize nn k = i at *
    rw [e1, nI_clamp (by omega), (h.2.2.1 i (by omega)).1]
    exact ⟨vp_in_nI (by omega) (by decide), hp⟩
  · rw [hk, if_neg (by decide)] at hp
    exact hp
theorem mTop_ok {σ : Sto} {g : GS} {Post : Int64 → Sto → Prop} (h : MI σ g) (hp : Post (gbt g) σ) : X8_top_wp σ Post := by
  unfold X8_top_wp
  rw [h.2.2.2.2.2.1]
  exact hp
theorem mBottom_ok {σ : Sto} {g : GS} {Post : Int64 → Sto → Prop} (h : MI σ g) (hp : Post (gbb g) σ) : X8_bottom_wp σ Post := by
  unfold X8_bottom_wp
  rw [h.2.2.2.2.2.2.1]
  exact hp
/-! score -/
def gBd (g : GS) (t b : Int64) : GS := gmk (gN g) (gS g) (gc g) (gar g) (gpo g) (ghid g) (gtm g) (ggrp g) (gwt g) (gv g) (gw g) (gs g) t b
def okSc (k : Int32) : Bool := decide (¬ k < 0 ∧ k ≤ 11)
/-- what a score shows, over SC -/
def vSc (g : GS) (p : Nat) (k : Int32) : Int := if k = 11 then mixv (gP g) (gwt g) (p / 12) (p % 12) else (gP g (nn k) (p / 12) (p % 12) : Int)
def gScore (g : GS) (a b k : Int32) : GS := if told (gN g) (gS g) a b = true ∧ okSc k = true then gBd g (lz (fT (vSc g (ori (gN g) (gS g) (nn a) (nn b)) k))) (lz (fB (vSc g (ori (gN g) (gS g) (nn a) (nn b)) k))) else g
def rScore (g : GS) (a b k : Int32) : Int32 := if told (gN g) (gS g) a b then (if okSc k then 1 else -2) else -1
theorem MI.board {σ τ : Sto} {g : GS} (h : MI σ g) (k : ∀ j, j ≠ 18 → j ≠ 28 → j ≠ 29 → τ.1 0 j = σ.1 0 j) (k1 : ∀ j, 1 ≤ j → j ≤ 7 → τ.1 j = σ.1 j) (c : MCa τ (gN g) (gS g) (gP g)) : MI τ (gBd g (τ.2 0 16) (τ.2 0 17)) := by
  obtain ⟨a1, a2, a3, a4, a5, a6, a7, a8⟩ := h
  obtain ⟨⟨c1, c2, c3, c4, c5, c6, c7⟩, b2, b3, b4⟩ := a1
  refine ⟨⟨⟨?_, c2, c3, ?_, c5, ?_, ?_⟩, ?_, ?_, b4⟩, c, ?_, ?_, ?_, rfl, rfl, a8⟩
  · rw [k 0 (by decide) (by decide) (by decide)]; exact c1
  · rw [k 1 (by decide) (by decide) (by decide)]; exact c4
  · rw [k1 1 (by decide) (by decide)]; exact c6
  · rw [k1 5 (by decide) (by decide)]; exact c7
  · unfold MGrp at b2 ⊢
    rw [k1 6 (by decide) (by decide)]
    exact b2
  · unfold MPar at b3 ⊢
    rw [k 10 (by decide) (by decide) (by decide), k 11 (by decide) (by decide) (by decide), k 12 (by decide) (by decide) (by decide)]
    exact b3
  · unfold MWt at a3 ⊢
    rw [k1 7 (by decide) (by decide)]
    exact a3
  · rw [k 7 (by decide) (by decide) (by decide)]; exact a4
  · rw [k1 4 (by decide) (by decide)]; exact a5
theorem show_ok {σ τ : Sto} {g : GS} {Post : Sto → Prop} (h : MI σ g) (k : Ks σ τ) (c : MCa τ (gN g) (gS g) (gP g)) (hp : ∀ σ' : Sto, MI σ' (gBd g (τ.2 0 19) (τ.2 0 20)) → Post σ') : X8_show_wp τ Post := by
  unfold X8_show_wp
  have e16 : (sJ (sJ τ 0 16 (τ.2 0 19)) 0 17 (τ.2 0 20)).2 0 16 = τ.2 0 19 := by rw [sJ_n _ _ _ (by decide), sJ_e]
  have e17 : (sJ (sJ τ 0 16 (τ.2 0 19)) 0 17 (τ.2 0 20)).2 0 17 = τ.2 0 20 := by rw [sJ_e]
  have := h.board (τ := sJ (sJ τ 0 16 (τ.2 0 19)) 0 17 (τ.2 0 20)) k.1 k.2.1 (c.cong rfl (by rw [sJ_o _ _ _ (by decide), sJ_o _ _ _ (by decide)]) (by rw [sJ_o _ _ _ (by decide), sJ_o _ _ _ (by decide)]))
  rw [e16, e17] at this
  exact hp _ this
theorem isTurned_ok {σ : Sto} {N S : Nat} {ar : Nat → Nat} {hid : Nat → Bool} {a b : Nat} {Post : Int32 → Sto → Prop} (h : MNet σ.1 N S ar hid) (ha : a < 2 ^ 31) (hb : b < 2 ^ 31) (hp : Post (b2i (!isP N S a b)) σ) : X8_isTurned_wp σ (nI a) (nI b) Post := by
  unfold X8_isTurned_wp
  refine isPair_ok h ha hb (b2i_if _ (fun q => ?_) (fun q => ?_))
  · rw [q] at hp
    exact hp
  · rw [q] at hp
    exact hp
theorem mScore_ok {σ : Sto} {g : GS} {a b k : Int32} {Post : Int32 → Sto → Prop} (h : MI σ g) (hp : ∀ σ' : Sto, MI σ' (gScore g a b k) → Post (rScore g a b k) σ') : X8_score_wp σ a b k Post := by
  have hN := h.1.1.2.2.1
  have same : ¬ (told (gN g) (gS g) a b = true ∧ okSc k = true) → Post (rScore g a b k) σ := fun q => hp σ (by unfold gScore; rw [if_neg q]; exact h)
  unfold X8_score_wp
  refine isTold_ok h.1.1 (b2i_if _ (fun ht => ?_) (fun ht => ?_))
  · have badT : okSc k = false → Post (-2 : Int32) σ := fun q => by
      have := same (fun z => by rw [q] at z; exact absurd z.2 (by decide))
      unfold rScore at this
      rw [ht, q, if_pos rfl, if_neg (by decide)] at this
      exact this
    refine ⟨fun c => badT (decide_eq_false (fun q => q.1 c)), fun c1 => ⟨fun c2 => ?_, fun c => badT (decide_eq_false (fun q => c q.2))⟩⟩
    have hT : okSc k = true := decide_eq_true ⟨c1, c2⟩
    obtain ⟨x, y, hx, hy, ea, eb, hxy, na, nb⟩ := told_spec hN ht
    obtain ⟨o1, o2, o3, o4, o5⟩ := ori_spec hN hx hy hxy
    unfold gScore rScore at hp
    rw [if_pos ⟨ht, hT⟩, ht, hT, if_pos rfl, if_pos rfl, na, nb] at hp
    -- k as a number
    obtain ⟨i, hi, ek⟩ : ∃ i, i ≤ 11 ∧ k = nI i := by
      obtain ⟨j, hj, e⟩ := nI_of c1
      rw [e] at c2
      exact ⟨j, (nI_leI (b := 11) hj (by omega)).mp c2, e⟩
    have both : ∀ x' y', x' < gN g → y' < gN g → isP (gN g) (gS g) x' y' = true → ori (gN g) (gS g) x y = 12 * x' + y' → ((¬ k = (11 : Int32) → X8_known_wp σ (nI x') (nI y') k (fun σ4 => X8_show_wp σ4 (fun σ5 => Post (1 : Int32) σ5))) ∧ (k = (11 : Int32) → X8_mix_wp σ (nI x') (nI y') (fun σ4 => X8_show_wp σ4 (fun σ5 => Post (1 : Int32) σ5)))) := by
      intro x' y' hx' hy' hpr eo
      rw [eo] at hp
      unfold vSc at hp
      rw [show (12 * x' + y') / 12 = x' by omega, show (12 * x' + y') % 12 = y' by omega] at hp
      refine ⟨fun hk => ?_, fun hk => ?_⟩
      · rw [if_neg hk] at hp
        have hi2 : i < 11 := by
          rcases Nat.lt_or_ge i 11 with q | q
          · exact q
          · exact absurd (by rw [ek, show i = 11 by omega]; rfl) hk
        have en : nn k = i := by unfold nn; rw [ek, nI_clamp (by omega)]
        rw [en] at hp
        rw [ek]
        refine known_ok h.1 h.2.1 hx' hy' hpr hi2 (fun τ kp ca et eb => ?_)
        refine show_ok h kp.kr.ks ca (fun υ hυ => ?_)
        rw [et, eb] at hυ
        exact hp υ hυ
      · rw [if_pos hk] at hp
        refine mix_ok h.1 h.2.1 h.2.2.1 hx' hy' hpr (fun τ kp ca et eb => ?_)
        refine show_ok h kp.kr.ks ca (fun υ hυ => ?_)
        rw [et, eb] at hυ
        exact hp υ hυ
    rw [ea, eb]
    refine isTurned_ok h.1.1 (by omega) (by omega) (b2i_fi _ (fun h1 => ?_) (fun h1 => ?_))
    · refine isTurned_ok h.1.1 (by omega) (by omega) (b2i_fi _ (fun h2 => ?_) (fun h2 => ?_))
      · have hnp : isP (gN g) (gS g) x y = false := by simpa using h1
        have hyx : isP (gN g) (gS g) y x = true := by
          unfold tld at hxy
          rw [hnp, Bool.false_or, Bool.and_eq_true] at hxy
          exact hxy.2
        exact both y x hy hx hyx (by unfold ori; rw [hnp, if_neg (by decide)])
      · rw [h1] at h2
        cases h2
    · refine isTurned_ok h.1.1 (by omega) (by omega) (b2i_fi _ (fun h2 => ?_) (fun h2 => ?_))
      · rw [h1] at h2
        cases h2
      · have hpp : isP (gN g) (gS g) x y = true := by simpa using h1
        exact both x y hx hy hpp (by unfold ori; rw [hpp, if_pos rfl])
  · have := same (fun z => by rw [ht] at z; exact absurd z.1 (by decide))
    unfold rScore at this
    rw [ht, if_neg (by decide)] at this
    exact this
