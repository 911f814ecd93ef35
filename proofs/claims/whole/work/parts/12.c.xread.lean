/-! the class: partsOf, mixOf, pairFor, hiddenArcs, candidateTotal, show -/
theorem SCt : (2 : Int) ^ 63 = 9223372036854775808 := by decide
def Xk (σ σ' : Sto) : Prop := (∀ k, k ≤ 13 → σ'.1 k = σ.1 k) ∧ σ'.2 29 = σ.2 29
theorem Xk.rf (σ : Sto) : Xk σ σ := ⟨fun _ _ => rfl, rfl⟩
theorem Xk.tr {σ τ υ : Sto} (h : Xk σ τ) (h2 : Xk τ υ) : Xk σ υ := ⟨fun k a => (h2.1 k a).trans (h.1 k a), h2.2.trans h.2⟩
theorem Xk.i {σ : Sto} {k j : Nat} {x : Int32} (hk : 14 ≤ k) : Xk σ (sI σ k j x) := ⟨fun i _ => sI_o _ _ _ (by omega), rfl⟩
theorem Xk.j {σ : Sto} {k j : Nat} {x : Int64} (hk : k ≠ 29) : Xk σ (sJ σ k j x) := ⟨fun _ _ => rfl, sJ_o _ _ _ (fun q => hk q.symm)⟩
theorem XI.kp {σ τ : Sto} {g : GS} (h : XI σ g) (k : Xk σ τ) : XI τ g := by
  obtain ⟨a1, a2, a3, a4, a5, a6, a7, a8⟩ := h
  refine ⟨?_, ?_, ?_, ?_, ?_, ?_, ?_, a8⟩
  · unfold XN at a1 ⊢
    rw [k.1 1 (by decide), k.1 2 (by decide), k.1 3 (by decide), k.1 7 (by decide)]
    exact a1
  · unfold XA at a2 ⊢
    rw [k.1 4 (by decide), k.1 5 (by decide), k.1 6 (by decide), k.1 9 (by decide), k.1 10 (by decide)]
    exact a2
  · unfold XG at a3 ⊢
    rw [k.1 8 (by decide)]
    exact a3
  · unfold XP at a4 ⊢
    rw [k.1 11 (by decide)]
    exact a4
  · unfold XW at a5 ⊢
    rw [k.1 13 (by decide)]
    exact a5
  · rw [k.2]; exact a6
  · rw [k.2]; exact a7
/-- the i-th pair -/
def prI (g : GS) (i : Nat) : Nat := nth (isPr (gN g) (gS g)) 144 i
def pT (g : GS) : Nat := cnt 144 (isPr (gN g) (gS g))
def ixp (g : GS) (p : Nat) : Nat := cnt p (isPr (gN g) (gS g))
theorem pT_le (g : GS) : pT g ≤ 132 := pr_le _ _
theorem prI_spec {g : GS} {i : Nat} (h : i < pT g) : isPr (gN g) (gS g) (prI g i) = true ∧ prI g i < 144 ∧ ixp g (prI g i) = i := nth_spec 144 i h
theorem ixp_spec {g : GS} {p : Nat} (hp : p < 144) (h : isPr (gN g) (gS g) p = true) : ixp g p < pT g ∧ prI g (ixp g p) = p := by
  refine ⟨?_, nth_cnt h 144 hp⟩
  have := cnt_mono_n (isPr (gN g) (gS g)) (show p + 1 ≤ 144 by omega)
  rw [cnt_t h] at this
  unfold ixp pT
  omega
section XC
variable {σ : Sto} {g : GS}
theorem XI.fromto (h : XI σ g) {i : Nat} (hi : i < pT g) : σ.1 2 i = nI (prI g i / 12) ∧ σ.1 3 i = nI (prI g i % 12) := h.1.2.2.2.2.2.2.2.1 i hi
theorem XI.state (h : XI σ g) {i : Nat} (hi : i < pT g) : σ.1 4 i = nI (stc (gar g) (ghid g) (prI g i)) := h.2.1.1 i hi
set_option maxHeartbeats 1000000 in
theorem partsOf_ok {i k : Nat} {Post : Int64 → Sto → Prop} (h : XI σ g) (hi : i < pT g) (hk : k ≤ 10) (hp : Post (lz (gP g k (prI g i / 12) (prI g i % 12) : Nat)) σ) : X4_partsOf_wp σ (nI k) (nI i) Post := by
  have hN := h.1.2.2.1
  have hpt := pT_le g
  obtain ⟨s1, s2, -⟩ := prI_spec hi
  have hpr := isPr_iff.mp s1
  have ft := h.fromto hi
  have hr : gS g = 2 → gN g / 2 ≤ prI g i % 12 := by
    intro hS
    have := hpr.2.2
    rw [hS] at this
    unfold isP at this
    simp at this
    exact this.2
  have hne : prI g i / 12 ≠ prI g i % 12 := fun q => by
    have := hpr.2.2
    rw [q, isP_irr] at this
    cases this
  generalize prI g i / 12 = a at *
  generalize prI g i % 12 = b at *
  have vi : vp_in (nI i) 132 := vp_in_nI (by omega) (by decide)
  have va : vp_in (nI a) 12 := vp_in_nI (by omega) (by decide)
  have vb : vp_in (nI b) 12 := vp_in_nI (by omega) (by decide)
  unfold X4_partsOf_wp
  rw [nI_clamp (by omega), ft.1, ft.2, nI_clamp (by omega), nI_clamp (by omega)]
  refine ⟨vi, vi, fun e => ⟨va, ?_⟩, fun e => ⟨va, ?_⟩, fun e => ⟨va, ?_⟩, fun e => ⟨va, ?_⟩, fun e => ⟨va, ?_⟩, fun e => ⟨va, ?_⟩, fun e => ⟨va, ?_⟩, fun e => ?_, fun e => ?_, fun e => ?_, fun e => ⟨va, vb, ?_⟩, fun e0 e1 e2 e3 e4 e5 e6 e7 e8 e9 e10 => ?_⟩
  · exact compared_ok h hpr.2.1 hr (fun r hrep => overlap_ok h hpr.1 hpr.2.1 (by have := lzk (j := 0) (by omega) (by omega) e; omega) hrep hp)
  · exact compared_ok h hpr.2.1 hr (fun r hrep => overlap_ok h hpr.1 hpr.2.1 (by have := lzk (j := 1) (by omega) (by omega) e; omega) hrep hp)
  · exact compared_ok h hpr.2.1 hr (fun r hrep => overlap_ok h hpr.1 hpr.2.1 (by have := lzk (j := 2) (by omega) (by omega) e; omega) hrep hp)
  · exact compared_ok h hpr.2.1 hr (fun r hrep => overlap_ok h hpr.1 hpr.2.1 (by have := lzk (j := 3) (by omega) (by omega) e; omega) hrep hp)
  · exact compared_ok h hpr.2.1 hr (fun r hrep => overlap_ok h hpr.1 hpr.2.1 (by have := lzk (j := 4) (by omega) (by omega) e; omega) hrep hp)
  · obtain rfl := lzk (j := 5) (by omega) (by omega) e
    exact compared_ok h hpr.2.1 hr (fun r hrep => rare_ok h hpr.1 hpr.2.1 ((h.2.1.2.2 a (by omega)).1.and hrep) hp)
  · obtain rfl := lzk (j := 6) (by omega) (by omega) e
    refine bitCount_ok (h.2.1.2.2 a (by omega)).1 ⟨vb, bitCount_ok (h.2.1.2.2 b (by omega)).2 ?_⟩
    rw [cle h a (by omega), cin h b (by omega)]
    have c1 := cnt_le (gN g) (lead (gar g) (ghid g) a)
    have c2 := cnt_le (gN g) (fun y => lead (gar g) (ghid g) y b)
    rw [nI_lz (by omega), nI_lz (by omega), SC_lz, lz_mul, lz_mul, show ((SC : Nat) : Int) * ((cnt (gN g) (lead (gar g) (ghid g) a) : Nat) : Int) * ((cnt (gN g) (fun y => lead (gar g) (ghid g) y b) : Nat) : Int) = ((cnt (gN g) (lead (gar g) (ghid g) a) * cnt (gN g) (fun y => lead (gar g) (ghid g) y b) * SC : Nat) : Int) by rw [Int.natCast_mul, Int.natCast_mul, Int.mul_assoc, Int.mul_comm]]
    exact hp
  · obtain rfl := lzk (j := 7) (by omega) (by omega) e
    refine ways2_ok h (by omega) (by omega) (ways3_ok h (by omega) (by omega) ?_)
    have c1 := wk2_le (N := gN g) (lead (gar g) (ghid g)) a b
    have c2 := wk3_le (N := gN g) (lead (gar g) (ghid g)) a b
    have c4 : gN g * gN g ≤ 12 * 12 := Nat.mul_le_mul hN hN
    have c5 : gv g * wk2 (gN g) (lead (gar g) (ghid g)) a b ≤ 9 * 12 := Nat.mul_le_mul h.2.2.2.1.2.1 (by omega)
    have c6 : gw g * wk3 (gN g) (lead (gar g) (ghid g)) a b ≤ 9 * 144 := Nat.mul_le_mul h.2.2.2.1.2.2.2.1 (by omega)
    rw [h.2.2.2.1.1, h.2.2.2.1.2.2.1, pk_mul, pk_mul, nI_add, nI_lz (by omega), SC_lz, lz_mul, ← Int.natCast_mul, Nat.mul_comm]
    exact hp
  · obtain rfl := lzk (j := 8) (by omega) (by omega) e
    refine least_ok h hpr.1 hpr.2.1 hne ?_
    have := stp_le (N := gN g) (lead (gar g) (ghid g)) a b
    rw [show (1 : Int32) = nI 1 from rfl]
    exact fraction_ok (by omega) (by omega) hp
  · obtain rfl := lzk (j := 9) (by omega) (by omega) e
    exact xwander_ok h hpr.1 hpr.2.1 hp
  · obtain rfl := lzk (j := 10) (by omega) (by omega) e
    rw [(h.2.2.1 a (by omega)).1, (h.2.2.1 b (by omega)).1]
    exact between_ok h hpr.1 hpr.2.1 hp
  · exfalso
    rcases (show k = 0 ∨ k = 1 ∨ k = 2 ∨ k = 3 ∨ k = 4 ∨ k = 5 ∨ k = 6 ∨ k = 7 ∨ k = 8 ∨ k = 9 ∨ k = 10 by omega) with q | q | q | q | q | q | q | q | q | q | q
    · exact e0 (by rw [q]; rfl)
    · exact e1 (by rw [q]; rfl)
    · exact e2 (by rw [q]; rfl)
    · exact e3 (by rw [q]; rfl)
    · exact e4 (by rw [q]; rfl)
    · exact e5 (by rw [q]; rfl)
    · exact e6 (by rw [q]; rfl)
    · exact e7 (by rw [q]; rfl)
    · exact e8 (by rw [q]; rfl)
    · exact e9 (by rw [q]; rfl)
    · exact e10 (by rw [q]; rfl)
theorem mixOf_ok {i : Nat} {wt : Nat → Int} {Post : Int64 → Sto → Prop} (h : XI σ g) (hw : XW σ.1 wt) (hi : i < pT g) (hp : Post (lz (mvp (gP g) wt (prI g i))) σ) : X5_mixOf_wp σ (nI i) Post := by
  intro K hK
  rw [lz_0]
  refine down (fun k => K σ (lz (smI k (fun k => wt k * (gP g k (prI g i / 12) (prI g i % 12) : Int)))) (nI k)) 11 ?_ (fun k hk ih => ?_)
  · apply hK
    exact ⟨fun _ => hp, fun hn => absurd (by decide) hn⟩
  · apply hK
    unfold X5_mixOf_b5
    have hwk := hw k hk
    rw [nI_clamp (by omega), hwk.1, iz_0 (by omega) (by omega), nI_1]
    have vk : vp_in (nI k) 11 := vp_in_nI hk (by decide)
    rw [smI_s] at ih
    refine ⟨fun hn => absurd hn (nI_ge (b := 11) hk (by omega)), fun _ => ⟨vk, fun hz => ?_, fun hz => ⟨vk, partsOf_ok h hi (by omega) ?_⟩⟩⟩
    · rw [hz, Int.zero_mul, Int.add_zero] at ih
      exact ih
    · rw [iz_lz (by omega) (by omega), lz_mul, lz_add]
      exact ih
theorem xisNode_ok {a : Int32} {Post : Int32 → Sto → Prop} (h : XI σ g) (hp : Post (b2i (nodeB (gN g) a)) σ) : X6_isNode_wp σ a Post := by
  unfold X6_isNode_wp
  rw [h.1.1]
  unfold nodeB at hp
  refine ⟨fun c => ?_, fun c => ⟨fun d => ?_, fun d => ?_⟩⟩
  · rw [decide_eq_false (fun q => q.1 c)] at hp
    exact hp
  · rw [decide_eq_false (fun q => q.2 d)] at hp
    exact hp
  · rw [decide_eq_true ⟨c, d⟩] at hp
    exact hp
/-- which pair two ints mean, by its number -/
def pF (g : GS) (a b : Int32) : Int32 := if told (gN g) (gS g) a b then nI (ixp g (ori (gN g) (gS g) (nn a) (nn b))) else -1
theorem pairFor_ok {a b : Int32} {Post : Int32 → Sto → Prop} (h : XI σ g) (hp : Post (pF g a b) σ) : X6_pairFor_wp σ a b Post := by
  have hN := h.1.2.2.1
  unfold X6_pairFor_wp
  unfold pF told at hp
  refine xisNode_ok h (b2i_fi _ (fun h1 => ?_) (fun h1 => ?_))
  · rw [h1, Bool.true_and] at hp
    refine xisNode_ok h (b2i_if _ (fun h2 => ?_) (fun h2 => ?_))
    · rw [h2, Bool.true_and] at hp
      obtain ⟨e1, l1⟩ := nodeB_spec hN h1
      obtain ⟨e2, l2⟩ := nodeB_spec hN h2
      rw [e1, e2]
      generalize nn a = x at *
      generalize nn b = y at *
      rw [ix, nI_clamp (by omega), h.1.2.2.2.2.2.2.2.2 x y l1 l2]
      exact ⟨vp_in_nI (by omega) (by decide), hp⟩
    · rw [h2, Bool.false_and, if_neg (by decide)] at hp
      exact hp
  · rw [h1, Bool.false_and, if_neg (by decide)] at hp
    exact hp
theorem pF_t {a b : Int32} (ht : told (gN g) (gS g) a b = true) : pF g a b = nI (ixp g (ori (gN g) (gS g) (nn a) (nn b))) := by
  unfold pF
  rw [ht, if_pos rfl]
theorem pF_f {a b : Int32} (ht : told (gN g) (gS g) a b = false) : pF g a b = -1 := by
  unfold pF
  rw [ht, if_neg (by decide)]
theorem nI_nm1 {n : Nat} (h : n < 2 ^ 31) : ¬ nI n = (-1 : Int32) := fun q => by
  have := nI_pos (n := n) h
  rw [q] at this
  exact this (by decide)
theorem stc2 (ar : Nat → Nat) (hid : Nat → Bool) (p : Nat) : (stc ar hid p = 2) ↔ (decide (0 < ar p) && hid (ar p - 1)) = true := by
  unfold stc
  by_cases e : ar p = 0
  · rw [if_pos e, e]
    simp
  · rw [if_neg e, decide_eq_true (show 0 < ar p by omega), Bool.true_and]
    cases hid (ar p - 1) <;> simp
theorem stc1 (ar : Nat → Nat) (hid : Nat → Bool) (p : Nat) : (stc ar hid p = 1) ↔ lead ar hid (p / 12) (p % 12) = true := by
  unfold stc lead
  rw [Nat.div_add_mod]
  by_cases e : ar p = 0
  · rw [if_pos e, e]
    simp
  · rw [if_neg e, decide_eq_true (show 0 < ar p by omega), Bool.true_and]
    cases hid (ar p - 1) <;> simp
theorem stc0 (ar : Nat → Nat) (hid : Nat → Bool) (p : Nat) : (stc ar hid p = 0) ↔ ar p = 0 := by
  unfold stc
  by_cases e : ar p = 0
  · rw [if_pos e]
    simp [e]
  · rw [if_neg e]
    cases hid (ar p - 1) <;> simp [e]
theorem stc_le (ar : Nat → Nat) (hid : Nat → Bool) (p : Nat) : stc ar hid p ≤ 2 := by
  unfold stc
  split
  · omega
  · split <;> omega
theorem xhidden_ok {Post : Int32 → Sto → Prop} (h : XI σ g) (hp : Post (nI (cnt (gc g) (ghid g))) σ) : X6_hiddenArcs_wp σ Post := by
  have hGI := h.2.2.2.2.2.2.2
  have hc := hGI.c_le
  have hpt := pT_le g
  intro K hK
  refine down (fun i => K σ (nI (cnt i (ghid g))) (nI i)) (gc g) ?_ (fun i hi ih => ?_)
  · apply hK
    unfold X6_hiddenArcs_b4
    rw [h.1.2.2.2.2.2.2.1]
    exact pk_le (gc g) (gc g) (fun _ => hp) (fun c => by omega)
  · have hk := hGI.1 i hi
    have hx := ixp_spec hk.1 hk.2.1
    have e6 : σ.1 6 i = nI (ixp g (gpo g i)) := (h.2.1.2.1 i hi).1
    apply hK
    unfold X6_hiddenArcs_b4
    rw [h.1.2.2.2.2.2.2.1, nI_clamp (by omega), e6, nI_clamp (by omega), h.state hx.1, hx.2, nI_1]
    have hs2 := stc_le (gar g) (ghid g) (gpo g i)
    have e2 : (nI (stc (gar g) (ghid g) (gpo g i)) = (2 : Int32)) ↔ ghid g i = true := by
      rw [show (2 : Int32) = nI 2 from rfl, nI_eq (by omega) (by omega), stc2, hk.2.2.1]
      simp
    refine pk_le (gc g) i (fun c => by omega) (fun _ => ⟨vp_in_nI (by omega) (by decide), vp_in_nI (by omega) (by decide), fun z => ?_, fun z => ?_⟩)
    · have hf : ghid g i = false := by
        cases q : ghid g i with
        | false => rfl
        | true => exact absurd (e2.mpr q) z
      rw [cnt_f hf] at ih
      exact ih
    · rw [cnt_t (e2.mp z), ← nI_1] at ih
      exact ih
theorem cnt_split (n : Nat) (f q : Nat → Bool) : cnt n f = cnt n (fun x => f x && q x) + cnt n (fun x => f x && !q x) := by
  induction n with
  | zero => rfl
  | succ n ih =>
    show cnt n f + (if f n then 1 else 0) = (cnt n (fun x => f x && q x) + (if (f n && q n) then 1 else 0)) + (cnt n (fun x => f x && !q x) + (if (f n && !q n) then 1 else 0))
    rw [ih]
    cases f n <;> cases q n <;> simp <;> omega
theorem gC_eq (g : GS) (p : Nat) : gC g p = (isPr (gN g) (gS g) p && !lead (gar g) (ghid g) (p / 12) (p % 12)) := by
  unfold gC isPr isC
  generalize (decide (p / 12 < gN g) && decide (p % 12 < gN g)) = a
  generalize isP (gN g) (gS g) (p / 12) (p % 12) = b
  cases a <;> cases b <;> rfl
theorem gm_eq (h : GI (gN g) (gS g) (gc g) (gar g) (gpo g)) : gm g + gc g = pT g + cnt (gc g) (ghid g) := by
  have e1 := cnt_split 144 (isPr (gN g) (gS g)) (fun p => lead (gar g) (ghid g) (p / 12) (p % 12))
  have e2 : cnt 144 (fun p => isPr (gN g) (gS g) p && !lead (gar g) (ghid g) (p / 12) (p % 12)) = gm g := by
    unfold gm
    exact cnt_congr (fun p _ => (gC_eq g p).symm)
  have e3 : cnt 144 (fun p => isPr (gN g) (gS g) p && lead (gar g) (ghid g) (p / 12) (p % 12)) = cnt (gc g) (fun k => !ghid g k) := by
    rw [← h.cntB (fun k => !ghid g k)]
    refine cnt_congr (fun p _ => ?_)
    unfold lead
    rw [Nat.div_add_mod]
  have e4 := cnt_split (gc g) (fun _ => true) (ghid g)
  rw [cnt_true] at e4
  simp only [Bool.true_and] at e4
  unfold pT
  rw [show cnt (gc g) (fun x => ghid g x) = cnt (gc g) (ghid g) from rfl] at e4
  omega
theorem candTotal_ok {Post : Int32 → Sto → Prop} (h : XI σ g) (hp : Post (nI (gm g)) σ) : X6_candidateTotal_wp σ Post := by
  have hGI := h.2.2.2.2.2.2.2
  have e := gm_eq hGI
  have hm := gm_le g
  have hpt := pT_le g
  have hc := hGI.c_le
  have hh := cnt_le (gc g) (ghid g)
  unfold X6_candidateTotal_wp
  refine xhidden_ok h ?_
  rw [h.1.2.2.2.2.2.1, h.1.2.2.2.2.2.2.1]
  have e2 : nI (cnt 144 (isPr (gN g) (gS g))) - nI (gc g) + nI (cnt (gc g) (ghid g)) = nI (gm g) := by
    have e3 : nI (cnt 144 (isPr (gN g) (gS g))) + nI (cnt (gc g) (ghid g)) = nI (gm g) + nI (gc g) := by
      rw [nI_add, nI_add, show cnt 144 (isPr (gN g) (gS g)) + cnt (gc g) (ghid g) = gm g + gc g from e.symm]
    rw [Int32.sub_eq_add_neg, Int32.add_assoc, Int32.add_comm (-nI (gc g)), ← Int32.add_assoc, e3, Int32.add_assoc, Int32.add_right_neg, Int32.add_zero]
  rw [e2]
  exact hp
/-! the board -/
theorem gd_ok {Post : Int64 → Sto → Prop} {K : Sto → Int64 → Int64 → Int32 → Prop} {p0 p2 : Int64} (hK : ∀ (σ : Sto) (v4 v6 : Int64) (v8 : Int32), X0_greatestDivisor_b9 p0 p2 K Post σ v4 v6 v8 → K σ v4 v6 v8) : ∀ (n x y i : Nat), x < 2 ^ 63 → y < 2 ^ n → n ≤ 49 → i + 2 * n + 1 ≤ 100 → Post (lz (Nat.gcd x y : Nat)) σ → K σ (lz x) (lz y) (nI i) := by
  -- a step where y is 0
  have zero : ∀ (x i : Nat), i ≤ 100 → Post (lz (x : Nat)) σ → K σ (lz x) (lz 0) (nI i) := by
    intro x i hi hp
    apply hK
    unfold X0_greatestDivisor_b9
    refine ⟨fun _ => hp, fun _ => ⟨fun _ => hp, fun q => absurd ?_ q⟩⟩
    rw [lg_cmp_eq, lz_0]
  -- a step where it isn't
  have step : ∀ (x y i : Nat), x < 2 ^ 63 → 0 < y → y < 2 ^ 63 → i < 100 → K σ (lz y) (lz (x % y : Nat)) (nI (i + 1)) → K σ (lz x) (lz y) (nI i) := by
    intro x y i hx h0 hy hi hn
    apply hK
    unfold X0_greatestDivisor_b9
    have hne : ¬ lz (y : Nat) = 0 := by
      rw [lz_0, lz_eq (by omega) (by omega) (by omega) (by omega)]
      omega
    refine ⟨fun q => absurd q (nI_ge (b := 100) hi (by omega)), fun _ => ⟨fun q => absurd ((lg_cmp_eq _ _).mp q) hne, fun _ => ⟨hne, ?_⟩⟩⟩
    rw [lz_rem (by omega) (by omega) (by omega) (by omega), ← Int.natCast_emod, nI_1]
    exact hn
  intro n
  induction n with
  | zero =>
    intro x y i hx hy hn hi hp
    have : y = 0 := by omega
    subst this
    rw [Nat.gcd_zero_right] at hp
    exact zero x i (by omega) hp
  | succ n ih =>
    intro x y i hx hy hn hi hp
    have h49 : (2 : Nat) ^ (n + 1) ≤ 2 ^ 49 := Nat.pow_le_pow_right (by decide) (by omega)
    by_cases h0 : y = 0
    · subst h0
      rw [Nat.gcd_zero_right] at hp
      exact zero x i (by omega) hp
    · have hr1 := Nat.mod_lt x (show 0 < y by omega)
      refine step x y i hx (by omega) (by omega) (by omega) ?_
      rw [Nat.gcd_comm, Nat.gcd_rec] at hp
      by_cases h1 : x % y = 0
      · rw [h1] at hp ⊢
        rw [Nat.gcd_zero_left] at hp
        exact zero y (i + 1) (by omega) hp
      · have hr2 := Nat.mod_lt y (show 0 < x % y by omega)
        refine step y (x % y) (i + 1) (by omega) (by omega) (by omega) (by omega) ?_
        rw [Nat.gcd_rec] at hp
        have half : 2 * (y % (x % y)) < y := by
          have hd := Nat.div_add_mod y (x % y)
          have hq : 1 ≤ y / (x % y) := Nat.div_pos (by omega) (by omega)
          have := Nat.le_mul_of_pos_right (x % y) hq
          omega
        refine ih (x % y) (y % (x % y)) (i + 1 + 1) (by omega) ?_ (by omega) (by omega) ?_
        · rw [Nat.pow_succ] at hy
          omega
        · rw [Nat.gcd_comm]
          exact hp
theorem xshow_ok {a : Int} {b : Nat} {Post : Sto → Prop} (ha1 : -2 ^ 63 < a) (ha2 : a < 2 ^ 63) (hb0 : 0 < b) (hb : b < 2 ^ 49) (hp : Post (sJ (sJ σ 29 0 (lz (a / ((Nat.gcd a.natAbs b : Nat) : Int)))) 29 1 (lz (b / Nat.gcd a.natAbs b : Nat)))) : X0_show_wp σ (lz a) (lz b) Post := by
  have hg0 : 0 < Nat.gcd a.natAbs b := Nat.gcd_pos_of_pos_right _ hb0
  have hgl : Nat.gcd a.natAbs b ≤ b := Nat.le_of_dvd hb0 (Nat.gcd_dvd_right _ _)
  have habs : (if 0 < lz a then lz a else -lz a) = lz (a.natAbs : Nat) := by
    by_cases q : 0 < a
    · rw [if_pos (by rw [lz_0, lz_lt (by omega) (by omega) (by omega) (by omega)]; exact q)]
      congr 1
      omega
    · rw [if_neg (by rw [lz_0, lz_lt (by omega) (by omega) (by omega) (by omega)]; exact q), lz_neg]
      congr 1
      omega
  unfold X0_show_wp
  rw [habs]
  intro K hK
  have := gd_ok (σ := σ) hK 49 a.natAbs b 0 (by omega) hb (Nat.le_refl 49) (by omega) ?_
  · exact this
  · rw [lg_cmp_le, lz_0, lz_le (by omega) (by omega) (by omega) (by omega)]
    refine ⟨fun q => absurd q (by omega), fun _ => ?_⟩
    have hne : ¬ lz (Nat.gcd a.natAbs b : Nat) = lz 0 := by
      rw [lz_eq (by omega) (by omega) (by omega) (by omega)]
      omega
    refine ⟨hne, hne, ?_⟩
    rw [lz_div ha1 ha2 (by omega) (by omega), lz_div (by omega) (by omega) (by omega) (by omega), tdiv_exact (Int.ofNat_dvd_left.mpr (Nat.gcd_dvd_left _ _)), tdiv_exact (Int.natCast_dvd_natCast.mpr (Nat.gcd_dvd_right _ _)), ← Int.natCast_ediv]
    exact hp
theorem XI.bd (h : XI σ g) (t b : Int64) : XI (sJ (sJ σ 29 0 t) 29 1 b) (gBd g t b) := by
  obtain ⟨a1, a2, a3, a4, a5, -, -, a8⟩ := h
  exact ⟨a1, a2, a3, a4, a5, by rw [sJ_n _ _ _ (by decide), sJ_e]; rfl, by rw [sJ_e]; rfl, a8⟩
end XC
