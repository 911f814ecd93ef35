/-! the one mathematical state: nodes, sort, arcs (by place and by number), hidden, times, groups, weights, path numbers, board -/
abbrev GS : Type := (Nat × Nat × Nat) × (Nat → Nat) × (Nat → Nat) × (Nat → Bool) × (Nat → Int32) × (Nat → Nat) × (Nat → Int) × (Nat × Nat × Nat) × (Int64 × Int64)
def gmk (N S c : Nat) (ar po : Nat → Nat) (hid : Nat → Bool) (tm : Nat → Int32) (grp : Nat → Nat) (wt : Nat → Int) (v w s : Nat) (bt bb : Int64) : GS := ((N, S, c), ar, po, hid, tm, grp, wt, (v, w, s), (bt, bb))
def gN (g : GS) : Nat := g.1.1
def gS (g : GS) : Nat := g.1.2.1
def gc (g : GS) : Nat := g.1.2.2
def gar (g : GS) : Nat → Nat := g.2.1
def gpo (g : GS) : Nat → Nat := g.2.2.1
def ghid (g : GS) : Nat → Bool := g.2.2.2.1
def gtm (g : GS) : Nat → Int32 := g.2.2.2.2.1
def ggrp (g : GS) : Nat → Nat := g.2.2.2.2.2.1
def gwt (g : GS) : Nat → Int := g.2.2.2.2.2.2.1
def gv (g : GS) : Nat := g.2.2.2.2.2.2.2.1.1
def gw (g : GS) : Nat := g.2.2.2.2.2.2.2.1.2.1
def gs (g : GS) : Nat := g.2.2.2.2.2.2.2.1.2.2
def gbt (g : GS) : Int64 := g.2.2.2.2.2.2.2.2.1
def gbb (g : GS) : Int64 := g.2.2.2.2.2.2.2.2.2
/-- the pairs, by their places 12 a + b -/
def isPr (N S p : Nat) : Bool := isC N S (fun _ _ => false) p
def swp (p : Nat) : Nat := 12 * (p % 12) + p / 12
def tld (N S x y : Nat) : Bool := isP N S x y || (decide (S ≠ 1) && isP N S y x)
def ori (N S x y : Nat) : Nat := if isP N S x y then 12 * x + y else 12 * y + x
def GI (N S c : Nat) (ar po : Nat → Nat) : Prop := (∀ k, k < c → po k < 144 ∧ isPr N S (po k) = true ∧ ar (po k) = k + 1 ∧ (S ≠ 1 → ar (swp (po k)) = k + 1)) ∧ (∀ p, p < 144 → 0 < ar p → ar p ≤ c ∧ (p = po (ar p - 1) ∨ (S ≠ 1 ∧ p = swp (po (ar p - 1)))))
theorem isPr_iff {N S p : Nat} : isPr N S p = true ↔ p / 12 < N ∧ p % 12 < N ∧ isP N S (p / 12) (p % 12) = true := by
  unfold isPr isC
  simp [Bool.and_eq_true, decide_eq_true_eq, and_assoc]
theorem isP_irr (N S x : Nat) : isP N S x x = false := by
  unfold isP
  by_cases s0 : S = 0
  · simp [s0]
  · by_cases s1 : S = 1
    · simp [s1]
    · rw [if_neg s0, if_neg s1]
      by_cases q : x < N / 2
      · rw [decide_eq_false (show ¬ N / 2 ≤ x by omega), Bool.and_false]
      · rw [decide_eq_false q, Bool.false_and]
theorem isP_asym {N S x y : Nat} (hS : S ≠ 1) (h : isP N S x y = true) : isP N S y x = false := by
  unfold isP at h ⊢
  by_cases s0 : S = 0
  · simp [s0] at h ⊢
    omega
  · rw [if_neg s0, if_neg hS] at h ⊢
    simp at h ⊢
    omega
theorem swp_div {p : Nat} (h : p < 144) : swp p / 12 = p % 12 ∧ swp p % 12 = p / 12 ∧ swp p < 144 ∧ swp (swp p) = p := by
  unfold swp
  have : p % 12 < 12 := Nat.mod_lt _ (by decide)
  omega
theorem isPr_swp {N S p : Nat} (hp : p < 144) (hS : S ≠ 1) (h : isPr N S p = true) : isPr N S (swp p) = false := by
  have hs := swp_div hp
  have h := isPr_iff.mp h
  cases e : isPr N S (swp p)
  · rfl
  · have e := isPr_iff.mp e
    rw [hs.1, hs.2.1, isP_asym hS h.2.2] at e
    exact absurd e.2.2 (by decide)
theorem GI.irr {N S c : Nat} {ar po : Nat → Nat} (h : GI N S c ar po) {x : Nat} (hx : x < 12) : ar (12 * x + x) = 0 := by
  cases e : ar (12 * x + x) with
  | zero => rfl
  | succ k =>
    exfalso
    obtain ⟨h1, h2⟩ := h.2 (12 * x + x) (by omega) (by omega)
    rw [e] at h1 h2
    have hk := h.1 k (by omega)
    have hp := isPr_iff.mp hk.2.1
    have hne : po k / 12 ≠ po k % 12 := fun q => by
      rw [q, isP_irr] at hp
      exact absurd hp.2.2 (by decide)
    rcases h2 with q | ⟨-, q⟩
    · rw [Nat.add_sub_cancel] at q
      omega
    · rw [Nat.add_sub_cancel] at q
      have hs := swp_div hk.1
      omega
theorem GI.lead_irr {N S c : Nat} {ar po : Nat → Nat} (h : GI N S c ar po) (hid : Nat → Bool) : ∀ x, x < 12 → lead ar hid x x = false := fun x hx => by
  unfold lead
  rw [h.irr hx]
  rfl
/-- one place more -/
theorem cnt_set {n p : Nat} {f g : Nat → Bool} (hp : p < n) (hf : f p = false) (hg : g p = true) (he : ∀ i, i < n → i ≠ p → g i = f i) : cnt n g = cnt n f + 1 := by
  induction n with
  | zero => omega
  | succ n ih =>
    by_cases e : p = n
    · subst e
      rw [cnt_t hg, cnt_f hf, cnt_congr (fun i hi => he i (by omega) (by omega))]
    · have ih := ih (by omega) (fun i hi h => he i (by omega) h)
      have hn := he n (by omega) (fun q => e q.symm)
      show cnt n g + (if g n then 1 else 0) = cnt n f + (if f n then 1 else 0) + 1
      rw [hn, ih]
      omega
/-- the arcs, counted by places or by numbers -/
theorem GI.cntA {N S c : Nat} {ar po : Nat → Nat} (h : GI N S c ar po) (f : Nat → Bool) : ∀ m, m ≤ c → cnt 144 (fun p => isPr N S p && (decide (0 < ar p) && (decide (ar p ≤ m) && f (ar p - 1)))) = cnt m f := by
  intro m
  induction m with
  | zero =>
    intro _
    have : cnt 144 (fun p => isPr N S p && (decide (0 < ar p) && (decide (ar p ≤ 0) && f (ar p - 1)))) = cnt 144 (fun _ => false) := cnt_congr (fun p _ => by
      by_cases q : 0 < ar p
      · rw [decide_eq_false (show ¬ ar p ≤ 0 by omega), Bool.false_and, Bool.and_false, Bool.and_false]
      · rw [decide_eq_false q, Bool.false_and, Bool.and_false])
    rw [this]
    show cnt 144 (fun _ => false) = 0
    decide +kernel
  | succ m ih =>
    intro hm
    have ih := ih (by omega)
    have hk := h.1 m (by omega)
    have uniq : ∀ p, p < 144 → isPr N S p = true → ar p = m + 1 → p = po m := by
      intro p hp hpr e
      obtain ⟨-, h2⟩ := h.2 p hp (by omega)
      rw [e, Nat.add_sub_cancel] at h2
      rcases h2 with q | ⟨hS, q⟩
      · exact q
      · rw [q, isPr_swp hk.1 hS hk.2.1] at hpr
        cases hpr
    have other : ∀ p, p < 144 → p ≠ po m → (isPr N S p && (decide (0 < ar p) && (decide (ar p ≤ m + 1) && f (ar p - 1)))) = (isPr N S p && (decide (0 < ar p) && (decide (ar p ≤ m) && f (ar p - 1)))) := by
      intro p hp hne
      cases hpr : isPr N S p
      · rfl
      · have : ar p ≠ m + 1 := fun q => hne (uniq p hp hpr q)
        by_cases q : ar p ≤ m
        · rw [decide_eq_true q, decide_eq_true (show ar p ≤ m + 1 by omega)]
        · rw [decide_eq_false q, decide_eq_false (show ¬ ar p ≤ m + 1 by omega)]
    have hlo : (isPr N S (po m) && (decide (0 < ar (po m)) && (decide (ar (po m) ≤ m) && f (ar (po m) - 1)))) = false := by
      rw [hk.2.2.1, decide_eq_false (show ¬ m + 1 ≤ m by omega), Bool.false_and, Bool.and_false, Bool.and_false]
    have hhi : (isPr N S (po m) && (decide (0 < ar (po m)) && (decide (ar (po m) ≤ m + 1) && f (ar (po m) - 1)))) = f m := by
      rw [hk.2.2.1, hk.2.1, decide_eq_true (Nat.succ_pos m), decide_eq_true (Nat.le_refl (m + 1)), Nat.add_sub_cancel]
      simp
    cases hf : f m
    · rw [cnt_f hf, ← ih]
      refine cnt_congr (fun p hp => ?_)
      by_cases e : p = po m
      · rw [e, hlo, hhi, hf]
      · exact other p hp e
    · rw [cnt_t hf, ← ih]
      exact cnt_set hk.1 hlo (by rw [hhi, hf]) (fun p hp e => other p hp e)
theorem GI.cntB {N S c : Nat} {ar po : Nat → Nat} (h : GI N S c ar po) (f : Nat → Bool) : cnt 144 (fun p => isPr N S p && (decide (0 < ar p) && f (ar p - 1))) = cnt c f := by
  rw [← h.cntA f c (Nat.le_refl c)]
  refine cnt_congr (fun p hp => ?_)
  by_cases q : 0 < ar p
  · rw [decide_eq_true (h.2 p hp q).1, Bool.true_and]
  · rw [decide_eq_false q, Bool.false_and, Bool.false_and]
theorem cnt_true : ∀ n, cnt n (fun _ => true) = n
  | 0 => rfl
  | n + 1 => by rw [cnt_t rfl, cnt_true n]
theorem pr_le (N S : Nat) : cnt 144 (isPr N S) ≤ 132 := cntC_le N S (fun _ _ => false) 12 (Nat.le_refl 12)
theorem GI.c_le {N S c : Nat} {ar po : Nat → Nat} (h : GI N S c ar po) : c ≤ 132 := by
  have h1 := h.cntB (fun _ => true)
  rw [cnt_true] at h1
  have h2 : cnt 144 (fun p => isPr N S p && (decide (0 < ar p) && true)) ≤ cnt 144 (isPr N S) := cnt_mono (fun i _ q => by
    rw [Bool.and_eq_true] at q
    exact q.1)
  have := pr_le N S
  omega
theorem GI.none (N S : Nat) (po : Nat → Nat) : GI N S 0 (fun _ => 0) po := ⟨fun k h => by omega, fun p _ h => absurd h (Nat.lt_irrefl 0)⟩
/-- an arc more -/
def arA (S c p : Nat) (ar : Nat → Nat) : Nat → Nat := fun q => if q = p then c + 1 else if S ≠ 1 ∧ q = swp p then c + 1 else ar q
def upN {α : Type} (f : Nat → α) (k : Nat) (x : α) : Nat → α := fun j => if j = k then x else f j
theorem upN_e {α : Type} (f : Nat → α) (k : Nat) (x : α) : upN f k x k = x := by simp [upN]
theorem upN_n {α : Type} (f : Nat → α) {k j : Nat} (x : α) (h : j ≠ k) : upN f k x j = f j := by simp [upN, h]
theorem GI.add {N S c : Nat} {ar po : Nat → Nat} (h : GI N S c ar po) {p : Nat} (hp : p < 144) (hpr : isPr N S p = true) (h0 : ar p = 0) (h1 : S ≠ 1 → ar (swp p) = 0) : GI N S (c + 1) (arA S c p ar) (upN po c p) := by
  have hs := swp_div hp
  have hne : ∀ k, k < c → po k ≠ p := fun k hk q => by
    have := (h.1 k hk).2.2.1
    rw [q, h0] at this
    omega
  have hne2 : S ≠ 1 → ∀ k, k < c → po k ≠ swp p := fun hS k hk q => by
    have := (h.1 k hk).2.2.1
    rw [q, h1 hS] at this
    omega
  constructor
  · intro k hk
    by_cases e : k = c
    · subst e
      rw [upN_e]
      refine ⟨hp, hpr, ?_, fun hS => ?_⟩
      · unfold arA
        rw [if_pos rfl]
      · unfold arA
        by_cases q : swp p = p
        · rw [if_pos q]
        · rw [if_neg q, if_pos ⟨hS, rfl⟩]
    · have hk2 : k < c := by omega
      rw [upN_n _ _ e]
      obtain ⟨a1, a2, a3, a4⟩ := h.1 k hk2
      have hsk := swp_div a1
      refine ⟨a1, a2, ?_, fun hS => ?_⟩
      · unfold arA
        rw [if_neg (hne k hk2), if_neg (fun q => hne2 q.1 k hk2 q.2)]
        exact a3
      · unfold arA
        rw [if_neg (fun q => ?_), if_neg (fun q => ?_)]
        · exact a4 hS
        · apply hne k hk2
          rw [← hsk.2.2.2, q.2, hs.2.2.2]
        · apply hne2 hS k hk2
          rw [← q]
          exact hsk.2.2.2.symm
  · intro q hq hpos
    unfold arA at hpos ⊢
    by_cases e : q = p
    · rw [if_pos e] at hpos ⊢
      refine ⟨Nat.le_refl _, Or.inl ?_⟩
      rw [Nat.add_sub_cancel, upN_e]
      exact e
    · rw [if_neg e] at hpos ⊢
      by_cases e2 : S ≠ 1 ∧ q = swp p
      · rw [if_pos e2] at hpos ⊢
        refine ⟨Nat.le_refl _, Or.inr ⟨e2.1, ?_⟩⟩
        rw [Nat.add_sub_cancel, upN_e]
        exact e2.2
      · rw [if_neg e2] at hpos ⊢
        obtain ⟨b1, b2⟩ := h.2 q hq hpos
        refine ⟨by omega, ?_⟩
        rw [upN_n _ _ (show ar q - 1 ≠ c by omega)]
        exact b2
/-- nodes and pairs as ints name them -/
def nodeB (N : Nat) (a : Int32) : Bool := decide (¬ a < 0 ∧ ¬ nI N ≤ a)
def nn (a : Int32) : Nat := a.toNatClampNeg
theorem nodeB_spec {N : Nat} {a : Int32} (hN : N ≤ 12) (h : nodeB N a = true) : a = nI (nn a) ∧ nn a < N := by
  unfold nodeB at h
  have h := of_decide_eq_true h
  rcases pk_ix a (show N < 2 ^ 31 by omega) with q | q | ⟨j, hj, e⟩
  · exact absurd q h.1
  · exact absurd q h.2
  · have : nn a = j := by
      unfold nn
      rw [e, nI_clamp (by omega)]
    rw [this]
    exact ⟨e, hj⟩
theorem nodeB_nI {N x : Nat} (hN : N ≤ 12) (hx : x < N) : nodeB N (nI x) = true := decide_eq_true ⟨nI_pos (by omega), nI_ge hx (by omega)⟩
def told (N S : Nat) (a b : Int32) : Bool := nodeB N a && (nodeB N b && tld N S (nn a) (nn b))
theorem told_spec {N S : Nat} {a b : Int32} (hN : N ≤ 12) (h : told N S a b = true) : ∃ x y, x < N ∧ y < N ∧ a = nI x ∧ b = nI y ∧ tld N S x y = true ∧ nn a = x ∧ nn b = y := by
  unfold told at h
  rw [Bool.and_eq_true, Bool.and_eq_true] at h
  obtain ⟨e1, l1⟩ := nodeB_spec hN h.1
  obtain ⟨e2, l2⟩ := nodeB_spec hN h.2.1
  exact ⟨nn a, nn b, l1, l2, e1, e2, h.2.2, rfl, rfl⟩
/-- the pair that is meant -/
theorem ori_spec {N S x y : Nat} (hN : N ≤ 12) (hx : x < N) (hy : y < N) (h : tld N S x y = true) : ori N S x y < 144 ∧ isPr N S (ori N S x y) = true ∧ (S = 1 → ori N S x y = 12 * x + y) ∧ (12 * x + y = ori N S x y ∨ (S ≠ 1 ∧ 12 * x + y = swp (ori N S x y) ∧ swp (12 * x + y) = ori N S x y)) ∧ (12 * x + y = ori N S x y → isP N S x y = true) := by
  unfold tld at h
  unfold ori
  cases e : isP N S x y
  · rw [e, Bool.false_or, Bool.and_eq_true, decide_eq_true_eq] at h
    rw [if_neg (by decide)]
    have e1 : (12 * y + x) / 12 = y := by omega
    have e2 : (12 * y + x) % 12 = x := by omega
    refine ⟨by omega, isPr_iff.mpr ?_, fun q => absurd q h.1, Or.inr ⟨h.1, ?_, ?_⟩, fun q => ?_⟩
    · rw [e1, e2]
      exact ⟨hy, hx, h.2⟩
    · unfold swp
      rw [e1, e2]
    · unfold swp
      omega
    · have : x = y := by omega
      subst this
      rw [isP_irr] at h
      exact absurd h.2 (by decide)
  · rw [if_pos rfl]
    have e1 : (12 * x + y) / 12 = x := by omega
    have e2 : (12 * x + y) % 12 = y := by omega
    refine ⟨by omega, isPr_iff.mpr ?_, fun _ => rfl, Or.inl rfl, fun _ => rfl⟩
    rw [e1, e2]
    exact ⟨hx, hy, e⟩
/-- in sorts 0 and 2 both places of a pair show the same -/
theorem GI.sym {N S c : Nat} {ar po : Nat → Nat} (h : GI N S c ar po) (hS : S ≠ 1) {p : Nat} (hp : p < 144) : ar (swp p) = ar p := by
  have hs := swp_div hp
  have one : ∀ q, q < 144 → 0 < ar q → ar (swp q) = ar q := by
    intro q hq h0
    have hsq := swp_div hq
    obtain ⟨b1, b2⟩ := h.2 q hq h0
    have hk := h.1 (ar q - 1) (by omega)
    rcases b2 with z | ⟨-, z⟩
    · have := hk.2.2.2 hS
      rw [← z] at this
      omega
    · have e : swp q = po (ar q - 1) := by
        rw [z, (swp_div hk.1).2.2.2]
        rw [← z]
      rw [e, hk.2.2.1]
      omega
  by_cases h0 : 0 < ar p
  · exact one p hp h0
  · by_cases h1 : 0 < ar (swp p)
    · have := one (swp p) hs.2.2.1 h1
      rw [hs.2.2.2] at this
      exact this.symm
    · omega
theorem GI.at {N S c : Nat} {ar po : Nat → Nat} (h : GI N S c ar po) (hN : N ≤ 12) {x y : Nat} (hx : x < N) (hy : y < N) (ht : tld N S x y = true) : ar (12 * x + y) = ar (ori N S x y) := by
  obtain ⟨o1, o2, o3, o4, -⟩ := ori_spec hN hx hy ht
  rcases o4 with q | ⟨hS, q, -⟩
  · rw [← q]
  · rw [q, h.sym hS o1]
