/-! the reference's public methods over the mathematical state: graph, arc, group, hide, since, split, count, paths, weigh, weight, top, bottom -/
def gP (g : GS) : Nat → Nat → Nat → Nat := prt (gN g) (gS g) (lead (gar g) (ghid g)) (ggrp g) (gv g) (gw g) (gs g)
def gC (g : GS) : Nat → Bool := isC (gN g) (gS g) (lead (gar g) (ghid g))
def MI (σ : Sto) (g : GS) : Prop := MB σ.1 (gN g) (gS g) (gar g) (ghid g) (ggrp g) (gv g) (gw g) (gs g) ∧ MCa σ (gN g) (gS g) (gP g) ∧ MWt σ.1 (gwt g) ∧ σ.1 0 7 = nI (gc g) ∧ (∀ k, k < gc g → σ.1 4 k = gtm g k) ∧ σ.2 0 16 = gbt g ∧ σ.2 0 17 = gbb g ∧ GI (gN g) (gS g) (gc g) (gar g) (gpo g)
theorem MI.ks {σ τ : Sto} {g : GS} (h : MI σ g) (k : Ks σ τ) (c : MCa τ (gN g) (gS g) (gP g)) : MI τ g := by
  obtain ⟨a1, -, a3, a4, a5, a6, a7, a8⟩ := h
  refine ⟨a1.ks k, c, a3.ks k, (k.1 7 (by decide) (by decide) (by decide)).trans a4, ?_, k.2.2.1.trans a6, k.2.2.2.1.trans a7, a8⟩
  rw [k.2.1 4 (by decide) (by decide)]
  exact a5
theorem changed_ok {σ : Sto} {Post : Sto → Prop} (hp : ∀ σ' : Sto, σ'.2 = σ.2 → (∀ k, k ≠ 10 → σ'.1 k = σ.1 k) → (∀ k, k < 11 → σ'.1 10 k = 0) → Post σ') : X8_changed_wp σ Post := by
  intro K hK
  have loop : ∀ j i, i + j = 11 → ∀ τ : Sto, τ.2 = σ.2 → (∀ k, k ≠ 10 → τ.1 k = σ.1 k) → (∀ k, k < i → τ.1 10 k = 0) → K τ (nI i) := by
    intro j
    induction j with
    | zero =>
      intro i hi τ e1 e2 e3
      have hi : i = 11 := hi
      subst hi
      apply hK
      exact ⟨fun _ => hp τ e1 e2 e3, fun hn => absurd (by decide) hn⟩
    | succ j ih =>
      intro i hi τ e1 e2 e3
      apply hK
      refine ⟨fun hn => absurd hn (nI_ge (b := 11) (show i < 11 by omega) (by omega)), fun _ => ⟨vp_in_nI (by omega) (by decide), ?_⟩⟩
      rw [nI_1, nI_clamp (by omega)]
      refine ih (i + 1) (by omega) _ e1 (fun k hk => by rw [sI_o _ _ _ hk]; exact e2 k hk) (fun k hk => ?_)
      by_cases q : k = i
      · subst q
        rw [sI_e]
        rfl
      · rw [sI_n _ _ _ q]
        exact e3 k (by omega)
  exact loop 11 0 rfl σ rfl (fun _ _ => rfl) (fun k hk => by omega)
theorem MCa.none {σ : Sto} {N S : Nat} {P : Nat → Nat → Nat → Nat} (h : ∀ k, k < 11 → σ.1 10 k = 0) : MCa σ N S P := fun k hk => Or.inl (h k hk)
theorem isNode_any {σ : Sto} {N S : Nat} {ar : Nat → Nat} {hid : Nat → Bool} {a : Int32} {Post : Int32 → Sto → Prop} (h : MNet σ.1 N S ar hid) (hp : Post (b2i (nodeB N a)) σ) : X8_isNode_wp σ a Post := by
  unfold X8_isNode_wp
  rw [h.1]
  unfold nodeB at hp
  refine ⟨fun c => ?_, fun c => ⟨fun d => ?_, fun d => ?_⟩⟩
  · rw [decide_eq_false (fun q => q.1 c)] at hp
    exact hp
  · rw [decide_eq_false (fun q => q.2 d)] at hp
    exact hp
  · rw [decide_eq_true ⟨c, d⟩] at hp
    exact hp
theorem isTold_ok {σ : Sto} {N S : Nat} {ar : Nat → Nat} {hid : Nat → Bool} {a b : Int32} {Post : Int32 → Sto → Prop} (h : MNet σ.1 N S ar hid) (hp : Post (b2i (told N S a b)) σ) : X8_isTold_wp σ a b Post := by
  have hN := h.2.2.1
  have hS := h.2.2.2.2.1
  unfold X8_isTold_wp
  unfold told at hp
  refine isNode_any h (b2i_fi _ (fun h1 => ?_) (fun h1 => ?_))
  · rw [h1, Bool.true_and] at hp
    refine isNode_any h (b2i_fi _ (fun h2 => ?_) (fun h2 => ?_))
    · rw [h2, Bool.true_and] at hp
      obtain ⟨e1, l1⟩ := nodeB_spec hN h1
      obtain ⟨e2, l2⟩ := nodeB_spec hN h2
      rw [e1, e2]
      generalize nn a = x at *
      generalize nn b = y at *
      unfold tld at hp
      refine isPair_ok h (by omega) (by omega) (b2i_if _ (fun h3 => ?_) (fun h3 => ?_))
      · rw [h3, Bool.true_or] at hp
        exact hp
      · rw [h3, Bool.false_or] at hp
        rw [h.2.2.2.1]
        refine pk_eq S 1 (fun q => ?_) (fun q => ?_)
        · rw [decide_eq_false (by omega), Bool.false_and] at hp
          exact hp
        · rw [decide_eq_true q, Bool.true_and] at hp
          refine isPair_ok h (by omega) (by omega) (b2i_fi _ (fun h4 => ?_) (fun h4 => ?_))
          · rw [h4] at hp
            exact hp
          · rw [h4] at hp
            exact hp
    · rw [h2, Bool.false_and] at hp
      exact hp
  · rw [h1, Bool.false_and] at hp
    exact hp
theorem hiddenOnes_ok {σ : Sto} {c : Nat} {hid : Nat → Bool} {Post : Int32 → Sto → Prop} (h7 : σ.1 0 7 = nI c) (hc : c ≤ 132) (h5 : ∀ k, k < 132 → σ.1 5 k = b2i (hid k)) (hp : Post (nI (cnt c hid)) σ) : X8_hiddenOnes_wp σ Post := by
  intro K hK
  refine down (fun i => K σ (nI (cnt i hid)) (nI i)) c ?_ (fun i hi ih => ?_)
  · apply hK
    unfold X8_hiddenOnes_b4
    rw [h7]
    exact pk_le c c (fun _ => hp) (fun hc => by omega)
  · apply hK
    unfold X8_hiddenOnes_b4
    rw [h7, nI_clamp (by omega), h5 i (by omega)]
    refine pk_le c i (fun hc => by omega) (fun hc => ⟨vp_in_nI (by omega) (by decide), ?_⟩)
    rw [← nI_1] at ih
    refine b2i_fi _ (fun hb => ?_) (fun hb => ?_)
    · rw [cnt_t hb, ← nI_1] at ih
      exact ih
    · rw [cnt_f hb] at ih
      rw [nI_p0]
      exact ih
theorem pairs_ok {σ : Sto} {N S : Nat} {ar : Nat → Nat} {hid : Nat → Bool} {Post : Int32 → Sto → Prop} (h : MNet σ.1 N S ar hid) (hp : Post (nI (cnt 144 (isPr N S))) σ) : X8_pairs_wp σ Post := by
  have hN := h.2.2.1
  intro K4 K14 h4 h14
  refine down (fun a => K4 σ (nI (cnt (12 * a) (isPr N S))) (nI a)) N ?_ (fun a ha ih => ?_)
  · apply h4
    unfold X8_pairs_b4
    rw [h.1]
    refine pk_le N N (fun _ => ?_) (fun hc => by omega)
    rw [← cnt_same (f := isPr N S) (show 12 * N ≤ 144 by omega) (fun i h1 h2 => by
      cases e : isPr N S i
      · rfl
      · have := (isPr_iff.mp e).1
        omega)]
    exact hp
  · apply h4
    unfold X8_pairs_b4
    rw [h.1]
    refine pk_le N a (fun hc => by omega) (fun hc => ?_)
    refine down (fun b => K14 σ (nI (cnt (12 * a + b) (isPr N S))) (nI a) (nI b)) N ?_ (fun b hb ih2 => ?_)
    · apply h14
      unfold X8_pairs_b14
      rw [h.1, nI_1]
      refine pk_le N N (fun _ => ?_) (fun hc => by omega)
      rw [← cnt_same (f := isPr N S) (show 12 * a + N ≤ 12 * (a + 1) by omega) (fun i h1 h2 => by
        cases e : isPr N S i
        · rfl
        · have := (isPr_iff.mp e).2.1
          omega)]
      exact ih
    · apply h14
      unfold X8_pairs_b14
      rw [h.1]
      refine pk_le N b (fun hc => by omega) (fun hc => ?_)
      rw [← nI_1, ← Nat.add_assoc] at ih2
      have ei : isPr N S (12 * a + b) = isP N S a b := by
        unfold isPr isC
        rw [show (12 * a + b) / 12 = a by omega, show (12 * a + b) % 12 = b by omega, decide_eq_true ha, decide_eq_true hb]
        simp
      refine isPair_ok h (by omega) (by omega) (b2i_fi _ (fun hb => ?_) (fun hb => ?_))
      · rw [cnt_t (by rw [ei]; exact hb), ← nI_1] at ih2
        exact ih2
      · rw [cnt_f (by rw [ei]; exact hb)] at ih2
        rw [nI_p0]
        exact ih2
/-! graph -/
def okGraph (n s : Int32) : Bool := decide (¬ n < 2 ∧ ¬ 12 < n ∧ ¬ s < 0 ∧ s ≤ 2)
def rGraph (n s : Int32) : Int32 := if okGraph n s then nI (cnt 144 (isPr (nn n) (nn s))) else -2
def gNew (N S : Nat) (po : Nat → Nat) (hid : Nat → Bool) (tm : Nat → Int32) : GS := gmk N S 0 (fun _ => 0) po hid tm (fun _ => 0) (fun k => if k = 0 then 1 else 0) 1 1 2 0 1
def gGraph (g : GS) (n s : Int32) : GS := if okGraph n s then gNew (nn n) (nn s) (gpo g) (ghid g) (gtm g) else g
theorem okGraph_spec {n s : Int32} (h : okGraph n s = true) : n = nI (nn n) ∧ 2 ≤ nn n ∧ nn n ≤ 12 ∧ s = nI (nn s) ∧ nn s ≤ 2 := by
  have h := of_decide_eq_true h
  obtain ⟨h1, h2, h3, h4⟩ := h
  have n0 : ¬ n < 0 := fun q => h1 (by
    rw [Int32.lt_iff_toInt_lt] at q ⊢
    have : (2 : Int32).toInt = 2 := rfl
    have : (0 : Int32).toInt = 0 := rfl
    omega)
  obtain ⟨j, hj, e⟩ := nI_of n0
  obtain ⟨i, hi, e2⟩ := nI_of h3
  have ej : nn n = j := by unfold nn; rw [e, nI_clamp hj]
  have ei : nn s = i := by unfold nn; rw [e2, nI_clamp hi]
  rw [ej, ei]
  rw [e] at h1 h2
  rw [e2] at h4
  have q1 : ¬ j < 2 := fun q => h1 ((nI_ltI (b := 2) hj (by omega)).mpr q)
  have q2 : ¬ 12 < j := fun q => h2 ((nI_ltI (a := 12) (by omega) hj).mpr q)
  have q3 : i ≤ 2 := (nI_leI (b := 2) hi (by omega)).mp h4
  exact ⟨e, by omega, by omega, e2, q3⟩
/-- what holds behind fresh() where the nodes and the sort stand -/
theorem fresh_ok {σ : Sto} {N S : Nat} {po : Nat → Nat} {hid : Nat → Bool} {tm : Nat → Int32} {Post : Sto → Prop} (h0 : σ.1 0 0 = nI N) (h1 : 2 ≤ N) (h2 : N ≤ 12) (h3 : σ.1 0 1 = nI S) (h4 : S ≤ 2) (h5 : ∀ k, k < 132 → σ.1 5 k = b2i (hid k)) (hp : ∀ σ' : Sto, MI σ' (gNew N S po hid tm) → Post σ') : X8_fresh_wp σ Post := by
  intro K6 K33 K54 h6 h33 h54
  refine changed_ok (fun τ e1 e2 e3 => ?_)
  -- what each loop keeps
  have l54 : ∀ j i, i + j = 11 → ∀ υ : Sto, υ.1 0 0 = nI N → υ.1 0 1 = nI S → υ.1 0 7 = 0 → (∀ p, p < 144 → υ.1 1 p = 0) → (∀ k, k < 132 → υ.1 5 k = b2i (hid k)) → (∀ x, x < 12 → υ.1 6 x = 0) → (∀ k, k < 11 → υ.1 10 k = 0) → (∀ k, k < i → υ.1 7 k = 0) → K54 υ (nI i) := by
    intro j
    induction j with
    | zero =>
      intro i hi υ a0 a1 a2 a3 a4 a5 a6 a7
      have hi : i = 11 := hi
      subst hi
      apply h54
      refine ⟨fun _ => ⟨vp_in_nI (n := 0) (by omega) (by decide), ?_⟩, fun hn => absurd (by decide) hn⟩
      refine hp _ ⟨⟨⟨?_, h1, h2, ?_, h4, ?_, ?_⟩, ?_, ?_, ?_⟩, ?_, ?_, ?_, ?_, ?_, ?_, ?_⟩
      · simp [sJ, sI, a0, gNew, gmk, gN]
      · simp [sJ, sI, a1, gNew, gmk, gS]
      · intro p hp
        simp [sJ, sI, a3 p hp, gNew, gmk, gar, nI_0]
      · intro k hk
        simp [sJ, sI, a4 k hk, gNew, gmk, ghid]
      · intro x hx
        simp [sJ, sI, a5 x hx, gNew, gmk, ggrp, nI_0]
      · refine ⟨?_, show (1 : Nat) ≤ 9 by decide, ?_, show (1 : Nat) ≤ 9 by decide, ?_, Or.inr rfl⟩
        · simp [sJ, sI, gNew, gmk, gv]; rfl
        · simp [sJ, sI, gNew, gmk, gw]; rfl
        · simp [sJ, sI, gNew, gmk, gs]; rfl
      · intro x hx
        rfl
      · refine MCa.none (fun k hk => ?_)
        simp [sJ, sI, a6 k hk]
      · intro k hk
        by_cases q : k = 0
        · subst q
          simp [sJ, sI, gNew, gmk, gwt, int0]
          rfl
        · simp [sJ, sI, gNew, gmk, gwt, int0, q, a7 k hk]
          rfl
      · simp [sJ, sI, a2, gNew, gmk, gc]
        rfl
      · intro k hk
        exact absurd hk (by simp [gNew, gmk, gc])
      · simp [sJ, gNew, gmk, gbt]
      · simp [sJ, gNew, gmk, gbb]
      · exact GI.none N S po
    | succ j ih =>
      intro i hi υ a0 a1 a2 a3 a4 a5 a6 a7
      apply h54
      refine ⟨fun hn => absurd hn (nI_ge (b := 11) (show i < 11 by omega) (by omega)), fun _ => ⟨vp_in_nI (by omega) (by decide), ?_⟩⟩
      rw [nI_1, nI_clamp (by omega)]
      refine ih (i + 1) (by omega) _ ?_ ?_ ?_ ?_ ?_ ?_ ?_ (fun k hk => ?_)
      · rw [sI_o _ _ _ (by decide)]; exact a0
      · rw [sI_o _ _ _ (by decide)]; exact a1
      · rw [sI_o _ _ _ (by decide)]; exact a2
      · rw [sI_o _ _ _ (by decide)]; exact a3
      · rw [sI_o _ _ _ (by decide)]; exact a4
      · rw [sI_o _ _ _ (by decide)]; exact a5
      · rw [sI_o _ _ _ (by decide)]; exact a6
      · by_cases q : k = i
        · subst q
          rw [sI_e]
        · rw [sI_n _ _ _ q]
          exact a7 k (by omega)
  have l33 : ∀ j i, i + j = 12 → ∀ υ : Sto, υ.1 0 0 = nI N → υ.1 0 1 = nI S → υ.1 0 7 = 0 → (∀ p, p < 144 → υ.1 1 p = 0) → (∀ k, k < 132 → υ.1 5 k = b2i (hid k)) → (∀ x, x < i → υ.1 6 x = 0) → (∀ k, k < 11 → υ.1 10 k = 0) → K33 υ (nI i) := by
    intro j
    induction j with
    | zero =>
      intro i hi υ a0 a1 a2 a3 a4 a5 a6
      have hi : i = 12 := hi
      subst hi
      apply h33
      exact ⟨fun _ => l54 11 0 rfl υ a0 a1 a2 a3 a4 a5 a6 (fun k hk => by omega), fun hn => absurd (by decide) hn⟩
    | succ j ih =>
      intro i hi υ a0 a1 a2 a3 a4 a5 a6
      apply h33
      refine ⟨fun hn => absurd hn (nI_ge (b := 12) (show i < 12 by omega) (by omega)), fun _ => ⟨vp_in_nI (by omega) (by decide), ?_⟩⟩
      rw [nI_1, nI_clamp (by omega)]
      refine ih (i + 1) (by omega) _ ?_ ?_ ?_ ?_ ?_ (fun k hk => ?_) ?_
      · rw [sI_o _ _ _ (by decide)]; exact a0
      · rw [sI_o _ _ _ (by decide)]; exact a1
      · rw [sI_o _ _ _ (by decide)]; exact a2
      · rw [sI_o _ _ _ (by decide)]; exact a3
      · rw [sI_o _ _ _ (by decide)]; exact a4
      · by_cases q : k = i
        · subst q
          rw [sI_e]
        · rw [sI_n _ _ _ q]
          exact a5 k (by omega)
      · rw [sI_o _ _ _ (by decide)]; exact a6
  have l6 : ∀ j i, i + j = 144 → ∀ υ : Sto, υ.1 0 0 = nI N → υ.1 0 1 = nI S → (∀ p, p < i → υ.1 1 p = 0) → (∀ k, k < 132 → υ.1 5 k = b2i (hid k)) → (∀ k, k < 11 → υ.1 10 k = 0) → K6 υ (nI i) := by
    intro j
    induction j with
    | zero =>
      intro i hi υ a0 a1 a3 a4 a6
      have hi : i = 144 := hi
      subst hi
      apply h6
      refine ⟨fun _ => l33 12 0 rfl _ ?_ ?_ ?_ ?_ ?_ (fun k hk => by omega) ?_, fun hn => absurd (by decide) hn⟩
      · rw [sI_n _ _ _ (by decide)]; exact a0
      · rw [sI_n _ _ _ (by decide)]; exact a1
      · rw [sI_e]
      · rw [sI_o _ _ _ (by decide)]; exact a3
      · rw [sI_o _ _ _ (by decide)]; exact a4
      · rw [sI_o _ _ _ (by decide)]; exact a6
    | succ j ih =>
      intro i hi υ a0 a1 a3 a4 a6
      apply h6
      refine ⟨fun hn => absurd hn (nI_ge (b := 144) (show i < 144 by omega) (by omega)), fun _ => ⟨vp_in_nI (by omega) (by decide), ?_⟩⟩
      rw [nI_1, nI_clamp (by omega)]
      refine ih (i + 1) (by omega) _ ?_ ?_ (fun k hk => ?_) ?_ ?_
      · rw [sI_o _ _ _ (by decide)]; exact a0
      · rw [sI_o _ _ _ (by decide)]; exact a1
      · by_cases q : k = i
        · subst q
          rw [sI_e]
        · rw [sI_n _ _ _ q]
          exact a3 k (by omega)
      · rw [sI_o _ _ _ (by decide)]; exact a4
      · rw [sI_o _ _ _ (by decide)]; exact a6
  refine l6 144 0 rfl τ ?_ ?_ (fun p hp => by omega) ?_ e3
  · rw [e2 0 (by decide)]; exact h0
  · rw [e2 0 (by decide)]; exact h3
  · rw [e2 5 (by decide)]; exact h5
theorem mGraph_ok {σ : Sto} {g : GS} {n s : Int32} {Post : Int32 → Sto → Prop} (h : MI σ g) (hp : ∀ σ' : Sto, MI σ' (gGraph g n s) → Post (rGraph n s) σ') : X8_graph_wp σ n s Post := by
  unfold X8_graph_wp
  have bad : okGraph n s = false → Post (-2 : Int32) σ := by
    intro q
    unfold gGraph rGraph at hp
    rw [q] at hp
    exact hp σ h
  refine ⟨fun c => bad (decide_eq_false (fun q => q.1 c)), fun c1 => ⟨fun c => bad (decide_eq_false (fun q => q.2.1 c)), fun c2 => ⟨fun c => bad (decide_eq_false (fun q => q.2.2.1 c)), fun c3 => ⟨fun c4 => ?_, fun c => bad (decide_eq_false (fun q => c q.2.2.2))⟩⟩⟩⟩
  have hok : okGraph n s = true := decide_eq_true ⟨c1, c2, c3, c4⟩
  obtain ⟨e1, e2, e3, e4, e5⟩ := okGraph_spec hok
  unfold gGraph rGraph at hp
  rw [hok, if_pos rfl, if_pos rfl] at hp
  generalize nn n = N at *
  generalize nn s = S at *
  have q := h.1.1.2.2.2.2.2.2
  refine fresh_ok (N := N) (S := S) (po := gpo g) (hid := ghid g) (tm := gtm g) ?_ e2 e3 ?_ e5 ?_ (fun τ hτ => ?_)
  · rw [sI_n _ _ _ (by decide), sI_e]
    exact e1
  · rw [sI_e]
    exact e4
  · rw [sI_o _ _ _ (by decide), sI_o _ _ _ (by decide)]
    exact q
  · exact pairs_ok hτ.1.1 (hp τ hτ)
