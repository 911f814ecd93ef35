/-! the class's measures -/
theorem nI_min {a b : Nat} (ha : a < 2 ^ 31) (hb : b < 2 ^ 31) : (if nI b < nI a then nI b else nI a) = nI (min a b) := by
  by_cases q : b < a
  · rw [if_pos ((nI_ltI hb ha).mpr q), Nat.min_eq_right (by omega)]
  · rw [if_neg (fun z => q ((nI_ltI hb ha).mp z)), Nat.min_eq_left (by omega)]
theorem nI_max {a b : Nat} (ha : a < 2 ^ 31) (hb : b < 2 ^ 31) : (if nI a < nI b then nI b else nI a) = nI (max a b) := by
  by_cases q : a < b
  · rw [if_pos ((nI_ltI ha hb).mpr q), Nat.max_eq_right (by omega)]
  · rw [if_neg (fun z => q ((nI_ltI ha hb).mp z)), Nat.max_eq_left (by omega)]
section XR
variable {σ : Sto} {g : GS}
theorem xle {x y : Nat} (h : XI σ g) (hx : x < 12) (hy : y < 12) (hl : lead (gar g) (ghid g) x y = true) : x < gN g ∧ y < gN g := by
  have := h.2.2.2.2.2.2.2.nodes hx hy (lead_ar hl)
  exact ⟨this.1, this.2.1⟩
theorem leadsFrom_ok {x : Int32} {f : Nat → Bool} {Post : Int32 → Sto → Prop} (h : XI σ g) (hx : rep x f) (hp : ∀ r, rep r (fun y => anyB (gN g) (fun z => f z && lead (gar g) (ghid g) z y)) → Post r σ) : X6_leadsFrom_wp σ x Post := by
  have hN := h.1.2.2.1
  intro K hK
  have loop : ∀ j i, i + j = gN g → ∀ r, rep r (fun y => anyB i (fun z => f z && lead (gar g) (ghid g) z y)) → K σ r (nI i) := by
    intro j
    induction j with
    | zero =>
      intro i hi r hr
      have hi : i = gN g := hi
      subst hi
      apply hK
      unfold X6_leadsFrom_b4
      rw [h.1.1]
      exact pk_le (gN g) (gN g) (fun _ => hp r hr) (fun c => by omega)
    | succ j ih =>
      intro i hi r hr
      apply hK
      unfold X6_leadsFrom_b4
      rw [h.1.1, nI_clamp (by omega), nI_1]
      refine pk_le (gN g) i (fun c => by omega) (fun _ => ?_)
      refine has_ok hx (by omega) (b2i_fi _ (fun hb => ⟨vp_in_nI (by omega) (by decide), ?_⟩) (fun hb => ?_))
      · refine ih (i + 1) (by omega) _ ((hr.or (h.2.1.2.2 i (by omega)).1).cong (fun y _ => ?_))
        rw [anyB_s, hb, Bool.true_and]
      · refine ih (i + 1) (by omega) _ (hr.cong (fun y _ => ?_))
        rw [anyB_s, hb, Bool.false_and, Bool.or_false]
  exact loop (gN g) 0 (by omega) 0 rep0
/-- in sort 2 arcs lead between the sides -/
theorem bip {x y : Nat} (h : XI σ g) (hS : gS g = 2) (hx : x < 12) (hy : y < 12) (hl : lead (gar g) (ghid g) x y = true) : (x < gN g / 2 ∧ gN g / 2 ≤ y) ∨ (y < gN g / 2 ∧ gN g / 2 ≤ x) := by
  have := (h.2.2.2.2.2.2.2.nodes hx hy (lead_ar hl)).2.2
  rw [hS] at this
  unfold tld isP at this
  simp at this
  omega
theorem compared_ok {b : Nat} {Post : Int32 → Sto → Prop} (h : XI σ g) (hb : b < gN g) (hr : gS g = 2 → gN g / 2 ≤ b) (hp : ∀ r, rep r (fun x => inB (gN g) (gS g) (lead (gar g) (ghid g)) x b) → Post r σ) : X6_comparedWith_wp σ (nI b) Post := by
  have hN := h.1.2.2.1
  have hS2 := h.1.2.2.2.2.1
  unfold X6_comparedWith_wp
  rw [h.1.2.2.2.1, nI_clamp (by omega)]
  have v : vp_in (nI b) 12 := vp_in_nI (by omega) (by decide)
  refine pk_eq (gS g) 2 (fun hS => ⟨v, ?_⟩) (fun hS => ⟨v, ?_⟩)
  · have hr := hr hS
    refine leadsFrom_ok h (h.2.1.2.2 b (by omega)).2 (fun r hrep => ?_)
    refine hp _ ((hrep.without (show b < 12 by omega)).cong (fun y hy => ?_))
    unfold inB
    rw [if_neg (by omega)]
    have e1 : anyB (gN g) (fun z => lead (gar g) (ghid g) z b && lead (gar g) (ghid g) z y) = anyB (gN g / 2) (fun z => lead (gar g) (ghid g) z b && lead (gar g) (ghid g) z y) := anyN (by omega) (fun z hz q => by
      rw [Bool.and_eq_true] at q
      have := bip h hS (by omega) (by omega) q.1
      omega)
    rw [e1]
    cases e2 : anyB (gN g / 2) (fun z => lead (gar g) (ghid g) z b && lead (gar g) (ghid g) z y)
    · simp
    · obtain ⟨z, hz, q⟩ := anyB_iff.mp e2
      rw [Bool.and_eq_true] at q
      have := bip h hS (show z < 12 by omega) hy q.2
      rw [decide_eq_true (show gN g / 2 ≤ y by omega)]
      by_cases e3 : b = y
      · subst e3
        simp
      · rw [decide_eq_false e3, decide_eq_true (show y ≠ b from fun q => e3 q.symm)]
        rfl
  · refine hp _ ((h.2.1.2.2 b (by omega)).2.cong (fun y hy => ?_))
    unfold inB
    rw [if_pos (by omega)]
theorem fraction_ok {m d : Nat} {Post : Int64 → Sto → Prop} (hm : m < 2 ^ 31) (hd : d < 2 ^ 31) (hp : Post (lz (dv m d : Nat)) σ) : X4_fraction_wp σ (nI m) (nI d) Post := by
  unfold X4_fraction_wp
  unfold dv at hp
  have hs := SC_lt
  rw [← nI_0]
  refine pk_lt 0 d (fun h0 => ?_) (fun h0 => ?_)
  · rw [if_neg (by omega)] at hp
    rw [nI_lz hm, nI_lz hd, SC_lz, lz_div (by omega) (by omega) (by omega) (by omega), lz_mul, show ((SC : Nat) : Int).tdiv ((d : Nat) : Int) = ((SC / d : Nat) : Int) from rfl, ← Int.natCast_mul]
    refine ⟨?_, hp⟩
    rw [lz_0, lz_eq (by omega) (by omega) (by omega) (by omega)]
    omega
  · rw [if_pos (by omega)] at hp
    exact hp
theorem cle (h : XI σ g) (x : Nat) (hx : x < 12) : cnt 12 (lead (gar g) (ghid g) x) = cnt (gN g) (lead (gar g) (ghid g) x) := cnt12 h.1.2.2.1 (fun y hy q => (xle h hx hy q).2)
theorem cin (h : XI σ g) (x : Nat) (hx : x < 12) : cnt 12 (fun y => lead (gar g) (ghid g) y x) = cnt (gN g) (fun y => lead (gar g) (ghid g) y x) := cnt12 h.1.2.2.1 (fun y hy q => (xle h hy hx q).1)
theorem inB_N {x b : Nat} (h : XI σ g) (hx : x < 12) (hb : b < 12) (q : inB (gN g) (gS g) (lead (gar g) (ghid g)) x b = true) : x < gN g := by
  have hN := h.1.2.2.1
  unfold inB at q
  by_cases hS : gS g < 2
  · rw [if_pos hS] at q
    exact (xle h hx hb q).1
  · rw [if_neg hS, Bool.and_eq_true, Bool.and_eq_true] at q
    obtain ⟨z, hz, q2⟩ := anyB_iff.mp q.2.2
    rw [Bool.and_eq_true] at q2
    exact (xle h (by omega) hx q2.2).2
theorem overlap_ok {a b k : Nat} {y : Int32} {Post : Int64 → Sto → Prop} (h : XI σ g) (ha : a < gN g) (hb : b < gN g) (hk : k ≤ 4) (hy : rep y (fun x => inB (gN g) (gS g) (lead (gar g) (ghid g)) x b)) (hp : Post (lz (gP g k a b : Nat)) σ) : X4_overlap_wp σ (nI k) (σ.1 9 a) y Post := by
  have hN := h.1.2.2.1
  have hA := (h.2.1.2.2 a (by omega)).1
  unfold X4_overlap_wp
  refine bitCount_ok (hA.and hy) (bitCount_ok hA (bitCount_ok hy ?_))
  rw [cle h a (by omega), cnt12 (f := fun x => inB (gN g) (gS g) (lead (gar g) (ghid g)) x b) hN (fun x hx q => inB_N h hx (by omega) q), cnt12 (f := fun x => lead (gar g) (ghid g) a x && inB (gN g) (gS g) (lead (gar g) (ghid g)) x b) hN (fun x hx q => by rw [Bool.and_eq_true] at q; exact inB_N h hx (by omega) q.2)]
  have c1 := cnt_le (gN g) (lead (gar g) (ghid g) a)
  have c2 := cnt_le (gN g) (fun x => inB (gN g) (gS g) (lead (gar g) (ghid g)) x b)
  have c3 := cnt_le (gN g) (fun x => lead (gar g) (ghid g) a x && inB (gN g) (gS g) (lead (gar g) (ghid g)) x b)
  have hp : Post (lz (prt (gN g) (gS g) (lead (gar g) (ghid g)) (ggrp g) (gv g) (gw g) (gs g) k a b : Nat)) σ := hp
  refine ⟨fun e => ?_, fun e => ?_, fun e => ?_, fun e => ?_, fun e1 e2 e3 e4 => ?_⟩
  · obtain rfl := lzk (j := 1) (by omega) (by omega) e
    refine bitCount_ok (hA.or hy) ?_
    rw [cnt12 (f := fun x => lead (gar g) (ghid g) a x || inB (gN g) (gS g) (lead (gar g) (ghid g)) x b) hN (fun x hx q => by
      rw [Bool.or_eq_true] at q
      rcases q with q | q
      · exact (xle h (by omega) hx q).2
      · exact inB_N h hx (by omega) q)]
    have cor := cnt_or (gN g) (lead (gar g) (ghid g) a) (fun x => inB (gN g) (gS g) (lead (gar g) (ghid g)) x b)
    have cu := cnt_le (gN g) (fun x => lead (gar g) (ghid g) a x || inB (gN g) (gS g) (lead (gar g) (ghid g)) x b)
    refine fraction_ok (by omega) (by omega) ?_
    rw [show cnt (gN g) (fun x => lead (gar g) (ghid g) a x || inB (gN g) (gS g) (lead (gar g) (ghid g)) x b) = cnt (gN g) (lead (gar g) (ghid g) a) + cnt (gN g) (fun x => inB (gN g) (gS g) (lead (gar g) (ghid g)) x b) - cnt (gN g) (fun x => lead (gar g) (ghid g) a x && inB (gN g) (gS g) (lead (gar g) (ghid g)) x b) by omega]
    exact hp
  · obtain rfl := lzk (j := 2) (by omega) (by omega) e
    rw [show (2 : Int32) = nI 2 from rfl, pk_mul, nI_add]
    exact fraction_ok (by omega) (by omega) hp
  · obtain rfl := lzk (j := 3) (by omega) (by omega) e
    rw [nI_min (by omega) (by omega)]
    exact fraction_ok (by omega) (by omega) hp
  · obtain rfl := lzk (j := 4) (by omega) (by omega) e
    rw [nI_max (by omega) (by omega)]
    exact fraction_ok (by omega) (by omega) hp
  · have hk0 : k = 0 := by
      rcases (show k = 0 ∨ k = 1 ∨ k = 2 ∨ k = 3 ∨ k = 4 by omega) with q | q | q | q | q
      · exact q
      · exact absurd (by rw [q]; rfl) e1
      · exact absurd (by rw [q]; rfl) e2
      · exact absurd (by rw [q]; rfl) e3
      · exact absurd (by rw [q]; rfl) e4
    subst hk0
    rw [show (1 : Int32) = nI 1 from rfl]
    refine fraction_ok (by omega) (by omega) ?_
    unfold dv
    rw [if_neg (by decide), Nat.div_one]
    exact hp
theorem rare_ok {a b : Nat} {y : Int32} {Post : Int64 → Sto → Prop} (h : XI σ g) (ha : a < gN g) (hb : b < gN g) (hy : rep y (fun x => lead (gar g) (ghid g) a x && inB (gN g) (gS g) (lead (gar g) (ghid g)) x b)) (hp : Post (lz (gP g 5 a b : Nat)) σ) : X4_rareCommon_wp σ y Post := by
  have hN := h.1.2.2.1
  intro K hK
  rw [lz_0]
  refine down (fun i => K σ (lz (smN i (fun x => if lead (gar g) (ghid g) a x && inB (gN g) (gS g) (lead (gar g) (ghid g)) x b then dv 1 (cnt (gN g) (lead (gar g) (ghid g) x)) else 0) : Nat)) (nI i)) (gN g) ?_ (fun i hi ih => ?_)
  · apply hK
    unfold X4_rareCommon_b5
    rw [h.1.1]
    exact pk_le (gN g) (gN g) (fun _ => hp) (fun c => by omega)
  · apply hK
    unfold X4_rareCommon_b5
    rw [h.1.1, nI_clamp (by omega), nI_1]
    rw [smN_s] at ih
    refine pk_le (gN g) i (fun c => by omega) (fun _ => ?_)
    refine has_ok hy (by omega) (b2i_fi _ (fun hb => ⟨vp_in_nI (by omega) (by decide), ?_⟩) (fun hb => ?_))
    · rw [hb, if_pos rfl] at ih
      refine bitCount_ok (h.2.1.2.2 i (by omega)).1 ?_
      rw [cle h i (by omega), show (1 : Int32) = nI 1 from rfl]
      have := cnt_le (gN g) (lead (gar g) (ghid g) i)
      refine fraction_ok (by omega) (by omega) ?_
      rw [lz_add, ← Int.natCast_add]
      exact ih
    · rw [hb, if_neg (by decide), Nat.add_zero] at ih
      exact ih
theorem ways2_ok {a b : Nat} {Post : Int32 → Sto → Prop} (h : XI σ g) (ha : a < 12) (hb : b < 12) (hp : Post (nI (wk2 (gN g) (lead (gar g) (ghid g)) a b)) σ) : X4_waysOfTwo_wp σ (nI a) (nI b) Post := by
  have hN := h.1.2.2.1
  unfold X4_waysOfTwo_wp
  rw [nI_clamp (by omega), nI_clamp (by omega)]
  refine ⟨vp_in_nI ha (by decide), vp_in_nI hb (by decide), bitCount_ok ((h.2.1.2.2 a ha).1.and (h.2.1.2.2 b hb).2) ?_⟩
  rw [cnt12 (f := fun k => lead (gar g) (ghid g) a k && lead (gar g) (ghid g) k b) hN (fun y hy q => by rw [Bool.and_eq_true] at q; exact (xle h ha hy q.1).2)]
  exact hp
theorem ways3_ok {a b : Nat} {Post : Int32 → Sto → Prop} (h : XI σ g) (ha : a < 12) (hb : b < 12) (hp : Post (nI (wk3 (gN g) (lead (gar g) (ghid g)) a b)) σ) : X4_waysOfThree_wp σ (nI a) (nI b) Post := by
  have hN := h.1.2.2.1
  intro K hK
  refine down (fun i => K σ (nI (smN i (fun x => if lead (gar g) (ghid g) a x then cnt (gN g) (fun y => lead (gar g) (ghid g) x y && lead (gar g) (ghid g) y b) else 0))) (nI i)) (gN g) ?_ (fun i hi ih => ?_)
  · apply hK
    unfold X4_waysOfThree_b5
    rw [h.1.1]
    exact pk_le (gN g) (gN g) (fun _ => hp) (fun c => by omega)
  · apply hK
    unfold X4_waysOfThree_b5
    rw [h.1.1, nI_clamp (by omega), nI_1]
    rw [smN_s] at ih
    refine pk_le (gN g) i (fun c => by omega) (fun _ => ⟨vp_in_nI ha (by decide), ?_⟩)
    refine has_ok (h.2.1.2.2 a ha).1 (by omega) (b2i_fi _ (fun hb2 => ?_) (fun hb2 => ?_))
    · rw [hb2, if_pos rfl] at ih
      refine ways2_ok h (by omega) hb ?_
      rw [nI_add]
      exact ih
    · rw [hb2, if_neg (by decide), Nat.add_zero] at ih
      exact ih
/-- reached from a by one to d arcs -/
def rcx (N : Nat) (le : Nat → Nat → Bool) (a : Nat) : Nat → Nat → Bool
  | 0, x => le a x
  | d + 1, x => rcx N le a d x || anyB N (fun y => rcx N le a d y && le y x)
theorem rcx_le (N : Nat) (le : Nat → Nat → Bool) (a : Nat) : ∀ d x, le a x = true → rcx N le a d x = true
  | 0, x, h => h
  | d + 1, x, h => by
    unfold rcx
    rw [rcx_le N le a d x h, Bool.true_or]
theorem rch_rcx {N : Nat} {le : Nat → Nat → Bool} {a : Nat} (ha : a < N) : ∀ d x, rch N le a (d + 1) x = (decide (x = a) || rcx N le a d x)
  | 0, x => by
    show (decide (x = a) || anyB N (fun y => decide (y = a) && le y x)) = (decide (x = a) || le a x)
    congr 1
    cases e : le a x
    · cases e2 : anyB N (fun y => decide (y = a) && le y x)
      · rfl
      · obtain ⟨y, hy, q⟩ := anyB_iff.mp e2
        rw [Bool.and_eq_true, decide_eq_true_eq] at q
        rw [q.1, e] at q
        exact absurd q.2 (by decide)
    · exact anyB_iff.mpr ⟨a, ha, by rw [decide_eq_true rfl, e]; rfl⟩
  | d + 1, x => by
    have ih := rch_rcx (le := le) ha d
    show (rch N le a (d + 1) x || anyB N (fun y => rch N le a (d + 1) y && le y x)) = (decide (x = a) || (rcx N le a d x || anyB N (fun y => rcx N le a d y && le y x)))
    rw [ih x]
    cases e : anyB N (fun y => rcx N le a d y && le y x)
    · rw [Bool.or_false]
      cases e2 : anyB N (fun y => rch N le a (d + 1) y && le y x)
      · rw [Bool.or_false]
      · obtain ⟨y, hy, q⟩ := anyB_iff.mp e2
        rw [Bool.and_eq_true, ih y, Bool.or_eq_true, decide_eq_true_eq] at q
        rcases q.1 with q1 | q1
        · have := q.2
          rw [q1] at this
          rw [rcx_le N le a d x this]
          simp
        · have : anyB N (fun y => rcx N le a d y && le y x) = true := anyB_iff.mpr ⟨y, hy, by rw [q1, q.2]; rfl⟩
          rw [e] at this
          cases this
    · obtain ⟨y, hy, q⟩ := anyB_iff.mp e
      rw [Bool.and_eq_true] at q
      have : anyB N (fun y => rch N le a (d + 1) y && le y x) = true := anyB_iff.mpr ⟨y, hy, by rw [ih y, q.1, q.2, Bool.or_true]; rfl⟩
      rw [this]
      simp
theorem least_ok {a b : Nat} {Post : Int32 → Sto → Prop} (h : XI σ g) (ha : a < gN g) (hb : b < gN g) (hab : a ≠ b) (hp : Post (nI (stp (gN g) (lead (gar g) (ghid g)) a b)) σ) : X4_leastArcs_wp σ (nI a) (nI b) Post := by
  have hN := h.1.2.2.1
  intro K hK
  rw [nI_clamp (by omega)]
  refine ⟨vp_in_nI (by omega) (by decide), ?_⟩
  have hR : ∀ d, 1 ≤ d → rch (gN g) (lead (gar g) (ghid g)) a d b = rcx (gN g) (lead (gar g) (ghid g)) a (d - 1) b := by
    intro d hd
    obtain ⟨e, rfl⟩ : ∃ e, d = e + 1 := ⟨d - 1, by omega⟩
    rw [rch_rcx ha, decide_eq_false (fun q => hab q.symm), Bool.false_or]
    rfl
  have loop : ∀ f d, d + f = gN g → 1 ≤ d → stpA (fun d => rch (gN g) (lead (gar g) (ghid g)) a d b) f d = stp (gN g) (lead (gar g) (ghid g)) a b → ∀ r, rep r (rcx (gN g) (lead (gar g) (ghid g)) a (d - 1)) → K σ r (nI d) := by
    intro f
    induction f with
    | zero =>
      intro d hd h1 hst r hr
      have hd : d = gN g := hd
      apply hK
      unfold X4_leastArcs_b13
      rw [h.1.1]
      refine pk_le (gN g) d (fun _ => ?_) (fun c => by omega)
      rw [← nI_0, show (0 : Nat) = stp (gN g) (lead (gar g) (ghid g)) a b from hst]
      exact hp
    | succ f ih =>
      intro d hd h1 hst r hr
      have hst : (if rch (gN g) (lead (gar g) (ghid g)) a d b then d else stpA (fun d => rch (gN g) (lead (gar g) (ghid g)) a d b) f (d + 1)) = stp (gN g) (lead (gar g) (ghid g)) a b := hst
      rw [hR d h1] at hst
      apply hK
      unfold X4_leastArcs_b13
      rw [h.1.1, nI_1]
      refine pk_le (gN g) d (fun c => by omega) (fun _ => ?_)
      refine has_ok hr (by omega) (b2i_fi _ (fun hb2 => ?_) (fun hb2 => ?_))
      · rw [hb2, if_pos rfl] at hst
        rw [show nI d = nI (stp (gN g) (lead (gar g) (ghid g)) a b) by rw [← hst]]
        exact hp
      · rw [hb2, if_neg (by decide)] at hst
        refine leadsFrom_ok h hr (fun r2 hr2 => ?_)
        refine ih (d + 1) (by omega) (by omega) hst _ ((hr.or hr2).cong (fun y _ => ?_))
        obtain ⟨e, rfl⟩ : ∃ e, d = e + 1 := ⟨d - 1, by omega⟩
        rfl
  exact loop (gN g - 1) 1 (by omega) (Nat.le_refl 1) rfl _ (h.2.1.2.2 a (by omega)).1
theorem xwander_ok {a b : Nat} {Post : Int64 → Sto → Prop} (h : XI σ g) (ha : a < gN g) (hb : b < gN g) (hp : Post (lz (gP g 9 a b : Nat)) σ) : X4_wander_wp σ (nI a) (nI b) Post := by
  have hN := h.1.2.2.1
  have hpar := h.2.2.2.1
  have hA := (h.2.1.2.2 a (by omega)).1
  intro K hK
  have hp : Post (lz ((if gs g = 1 then dv (if lead (gar g) (ghid g) a b then 1 else 0) (cnt (gN g) (lead (gar g) (ghid g) a)) else smN (gN g) (fun x => if lead (gar g) (ghid g) a x && lead (gar g) (ghid g) x b then dv 1 (cnt (gN g) (lead (gar g) (ghid g) a) * cnt (gN g) (lead (gar g) (ghid g) x)) else 0) : Nat) : Int)) σ := hp
  rw [nI_clamp (by omega), nI_clamp (by omega)]
  have va : vp_in (nI a) 12 := vp_in_nI (by omega) (by decide)
  have vb : vp_in (nI b) 12 := vp_in_nI (by omega) (by decide)
  refine ⟨va, bitCount_ok hA ?_⟩
  rw [cle h a (by omega), hpar.2.2.2.2.1]
  have c1 := cnt_le (gN g) (lead (gar g) (ghid g) a)
  refine ⟨fun hc => ⟨va, vb, ?_⟩, fun hc => ⟨va, ?_⟩⟩
  · have s1 : ¬ gs g = 1 := fun q => hc (by rw [q]; rfl)
    rw [if_neg s1] at hp
    rw [lz_0]
    have hy := hA.and (h.2.1.2.2 b (by omega)).2
    refine down (fun i => K σ (nI (cnt (gN g) (lead (gar g) (ghid g) a))) (σ.1 9 a &&& σ.1 10 b) (lz (smN i (fun x => if lead (gar g) (ghid g) a x && lead (gar g) (ghid g) x b then dv 1 (cnt (gN g) (lead (gar g) (ghid g) a) * cnt (gN g) (lead (gar g) (ghid g) x)) else 0) : Nat)) (nI i)) (gN g) ?_ (fun i hi ih => ?_)
    · apply hK
      unfold X4_wander_b74
      rw [h.1.1]
      exact pk_le (gN g) (gN g) (fun _ => hp) (fun c => by omega)
    · apply hK
      unfold X4_wander_b74
      rw [h.1.1, nI_clamp (by omega), nI_1]
      rw [smN_s] at ih
      refine pk_le (gN g) i (fun c => by omega) (fun _ => ?_)
      refine has_ok hy (by omega) (b2i_fi _ (fun hb2 => ⟨vp_in_nI (by omega) (by decide), ?_⟩) (fun hb2 => ?_))
      · rw [hb2, if_pos rfl] at ih
        refine bitCount_ok (h.2.1.2.2 i (by omega)).1 ?_
        rw [cle h i (by omega), show (1 : Int32) = nI 1 from rfl, pk_mul]
        have c2 := cnt_le (gN g) (lead (gar g) (ghid g) i)
        have c3 : cnt (gN g) (lead (gar g) (ghid g) a) * cnt (gN g) (lead (gar g) (ghid g) i) ≤ 12 * 12 := Nat.mul_le_mul (by omega) (by omega)
        refine fraction_ok (by omega) (by omega) ?_
        rw [lz_add, ← Int.natCast_add]
        exact ih
      · rw [hb2, if_neg (by decide), Nat.add_zero] at ih
        exact ih
  · have s1 : gs g = 1 := by
      rcases hpar.2.2.2.2.2 with q | q
      · exact q
      · rw [q] at hc
        exact absurd hc (by decide)
    rw [if_pos s1] at hp
    refine has_ok hA (by omega) (b2i_fi _ (fun hb2 => ?_) (fun hb2 => ?_))
    · rw [hb2, if_pos rfl] at hp
      rw [show (1 : Int32) = nI 1 from rfl]
      exact fraction_ok (by omega) (by omega) hp
    · rw [hb2, if_neg (by decide)] at hp
      have e0 : dv 0 (cnt (gN g) (lead (gar g) (ghid g) a)) = 0 := by
        unfold dv
        split
        · rfl
        · exact Nat.zero_mul _
      rw [e0] at hp
      exact hp
theorem members_ok {q : Nat} {Post : Int32 → Sto → Prop} (h : XI σ g) (hq : q < 4) (hp : ∀ r, rep r (fun x => decide (x < gN g) && decide (ggrp g x = q)) → Post r σ) : X6_membersOf_wp σ (nI q) Post := by
  have hN := h.1.2.2.1
  intro K hK
  have loop : ∀ j i, i + j = gN g → ∀ r, rep r (fun x => decide (x < i) && decide (ggrp g x = q)) → K σ r (nI i) := by
    intro j
    induction j with
    | zero =>
      intro i hi r hr
      have hi : i = gN g := hi
      subst hi
      apply hK
      unfold X6_membersOf_b4
      rw [h.1.1]
      exact pk_le (gN g) (gN g) (fun _ => hp r hr) (fun c => by omega)
    | succ j ih =>
      intro i hi r hr
      have hg := h.2.2.1 i (by omega)
      apply hK
      unfold X6_membersOf_b4
      rw [h.1.1, nI_clamp (by omega), nI_1, hg.1, nI_eq (by omega) (by omega)]
      refine pk_le (gN g) i (fun c => by omega) (fun _ => ⟨vp_in_nI (by omega) (by decide), fun he => ?_, fun he => ?_⟩)
      · refine ih (i + 1) (by omega) _ (hr.cong (fun x _ => ?_))
        by_cases e : x = i
        · rw [e, decide_eq_false he, Bool.and_false, Bool.and_false]
        · by_cases z : x < i
          · rw [decide_eq_true z, decide_eq_true (show x < i + 1 by omega)]
          · rw [decide_eq_false z, decide_eq_false (show ¬ x < i + 1 by omega)]
      · refine ih (i + 1) (by omega) _ ((hr.or (rep_one (show i < 12 by omega))).cong (fun x _ => ?_))
        by_cases e : i = x
        · subst e
          rw [decide_eq_true rfl, decide_eq_true he, decide_eq_true (Nat.lt_succ_self i), Bool.or_true]
          rfl
        · rw [decide_eq_false e, Bool.or_false]
          by_cases z : x < i
          · rw [decide_eq_true z, decide_eq_true (show x < i + 1 by omega)]
          · rw [decide_eq_false z, decide_eq_false (show ¬ x < i + 1 by omega)]
  exact loop (gN g) 0 (by omega) 0 (rep0.cong (fun x _ => by rw [decide_eq_false (by omega)]; rfl))
theorem between_ok {a b : Nat} {Post : Int64 → Sto → Prop} (h : XI σ g) (ha : a < gN g) (hb : b < gN g) (hp : Post (lz (gP g 10 a b : Nat)) σ) : X4_betweenGroups_wp σ (nI (ggrp g a)) (nI (ggrp g b)) Post := by
  have hN := h.1.2.2.1
  intro K hK
  have ga := (h.2.2.1 a (by omega)).2
  have gb := (h.2.2.1 b (by omega)).2
  refine members_ok h ga (fun rA hA => members_ok h gb (fun rB hB => ?_))
  have eA : cnt 12 (fun x => decide (x < gN g) && decide (ggrp g x = ggrp g a)) = cnt (gN g) (fun x => decide (ggrp g x = ggrp g a)) := by
    rw [cnt12 hN (fun y _ q => by rw [Bool.and_eq_true, decide_eq_true_eq] at q; exact q.1)]
    exact cnt_congr (fun i hi => by rw [decide_eq_true hi, Bool.true_and])
  have eB : cnt 12 (fun x => decide (x < gN g) && decide (ggrp g x = ggrp g b)) = cnt (gN g) (fun x => decide (ggrp g x = ggrp g b)) := by
    rw [cnt12 hN (fun y _ q => by rw [Bool.and_eq_true, decide_eq_true_eq] at q; exact q.1)]
    exact cnt_congr (fun i hi => by rw [decide_eq_true hi, Bool.true_and])
  have hp : Post (lz (dv (smN (gN g) (fun x => cnt (gN g) (fun y => lead (gar g) (ghid g) x y && (decide (ggrp g x = ggrp g a) && decide (ggrp g y = ggrp g b))))) (cnt (gN g) (fun x => decide (ggrp g x = ggrp g a)) * cnt (gN g) (fun x => decide (ggrp g x = ggrp g b))) : Nat)) σ := hp
  refine down (fun i => K σ rA rB (nI (smN i (fun x => cnt (gN g) (fun y => lead (gar g) (ghid g) x y && (decide (ggrp g x = ggrp g a) && decide (ggrp g y = ggrp g b)))))) (nI i)) (gN g) ?_ (fun i hi ih => ?_)
  · apply hK
    unfold X4_betweenGroups_b25
    rw [h.1.1]
    refine pk_le (gN g) (gN g) (fun _ => ?_) (fun c => by omega)
    refine bitCount_ok hA (bitCount_ok hB ?_)
    rw [eA, eB, pk_mul]
    have c1 := cnt_le (gN g) (fun x => decide (ggrp g x = ggrp g a))
    have c2 := cnt_le (gN g) (fun x => decide (ggrp g x = ggrp g b))
    have c3 : cnt (gN g) (fun x => decide (ggrp g x = ggrp g a)) * cnt (gN g) (fun x => decide (ggrp g x = ggrp g b)) ≤ 12 * 12 := Nat.mul_le_mul (by omega) (by omega)
    have c4 := smN_le (n := gN g) (b := 12) (f := fun x => cnt (gN g) (fun y => lead (gar g) (ghid g) x y && (decide (ggrp g x = ggrp g a) && decide (ggrp g y = ggrp g b)))) (fun j _ => Nat.le_trans (cnt_le _ _) hN)
    exact fraction_ok (by omega) (by omega) hp
  · apply hK
    unfold X4_betweenGroups_b25
    rw [h.1.1, nI_clamp (by omega), nI_1]
    rw [smN_s] at ih
    refine pk_le (gN g) i (fun c => by omega) (fun _ => ?_)
    refine has_ok hA (by omega) (b2i_fi _ (fun hb2 => ⟨vp_in_nI (by omega) (by decide), ?_⟩) (fun hb2 => ?_))
    · rw [decide_eq_true hi, Bool.true_and] at hb2
      refine bitCount_ok ((h.2.1.2.2 i (by omega)).1.and hB) ?_
      rw [cnt12 (f := fun k => lead (gar g) (ghid g) i k && (decide (k < gN g) && decide (ggrp g k = ggrp g b))) hN (fun y hy q => by rw [Bool.and_eq_true] at q; exact (xle h (by omega) hy q.1).2), nI_add]
      rw [show cnt (gN g) (fun k => lead (gar g) (ghid g) i k && (decide (k < gN g) && decide (ggrp g k = ggrp g b))) = cnt (gN g) (fun y => lead (gar g) (ghid g) i y && (decide (ggrp g i = ggrp g a) && decide (ggrp g y = ggrp g b))) from cnt_congr (fun k hk => by rw [decide_eq_true hk, hb2])]
      exact ih
    · rw [decide_eq_true hi, Bool.true_and] at hb2
      have e0 : cnt (gN g) (fun y => lead (gar g) (ghid g) i y && (decide (ggrp g i = ggrp g a) && decide (ggrp g y = ggrp g b))) = 0 := by
        rw [cnt_same (m := 0) (Nat.zero_le _) (fun y _ _ => by rw [hb2, Bool.false_and, Bool.and_false])]
        rfl
      rw [e0, Nat.add_zero] at ih
      exact ih
end XR
