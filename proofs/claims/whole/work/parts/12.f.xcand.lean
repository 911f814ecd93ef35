/-! the class: the candidates: gather, mixBy, putInOrder, ranked, place, among, share, sample -/
/-- the place at which the i-th pair stands, 144 behind the last -/
def bnd (g : GS) (i : Nat) : Nat := if i < pT g then prI g i else 144
theorem bnd_i {g : GS} {i : Nat} (h : i < pT g) : bnd g i = prI g i := if_pos h
theorem bnd_e (g : GS) : bnd g (pT g) = 144 := if_neg (Nat.lt_irrefl _)
theorem bnd_0 {g : GS} {f : Nat → Bool} (hf : ∀ p, f p = true → isPr (gN g) (gS g) p = true) : cnt (bnd g 0) f = 0 := by
  refine cnt_same (m := 0) (Nat.zero_le _) (fun p _ hp => ?_)
  cases e : f p
  · rfl
  · exfalso
    have hq := hf p e
    by_cases z : 0 < pT g
    · rw [bnd_i z] at hp
      have := cnt_mono_n (isPr (gN g) (gS g)) (show p + 1 ≤ prI g 0 by omega)
      rw [cnt_t hq] at this
      have e0 : cnt (prI g 0) (isPr (gN g) (gS g)) = 0 := (prI_spec z).2.2
      omega
    · unfold bnd at hp
      rw [if_neg z] at hp
      have := (ixp_spec hp hq).1
      omega
theorem bnd_s {g : GS} {i : Nat} {f : Nat → Bool} (hi : i < pT g) (hf : ∀ p, f p = true → isPr (gN g) (gS g) p = true) : cnt (bnd g (i + 1)) f = cnt (prI g i + 1) f := by
  have hpi := prI_spec hi
  have ei : cnt (prI g i) (isPr (gN g) (gS g)) = i := hpi.2.2
  have le : prI g i + 1 ≤ bnd g (i + 1) := by
    unfold bnd
    by_cases z : i + 1 < pT g
    · rw [if_pos z]
      have e2 : cnt (prI g (i + 1)) (isPr (gN g) (gS g)) = i + 1 := (prI_spec z).2.2
      rcases Nat.lt_or_ge (prI g i) (prI g (i + 1)) with q | q
      · exact q
      · have := cnt_mono_n (isPr (gN g) (gS g)) q
        omega
    · rw [if_neg z]
      have := hpi.2.1
      omega
  refine cnt_same le (fun p h1 h2 => ?_)
  cases e : f p
  · rfl
  · exfalso
    have hq := hf p e
    have m1 := cnt_mono_n (isPr (gN g) (gS g)) h1
    rw [cnt_t hpi.1, ei] at m1
    by_cases z : i + 1 < pT g
    · rw [bnd_i z] at h2
      have m2 := cnt_mono_n (isPr (gN g) (gS g)) (show p + 1 ≤ prI g (i + 1) by omega)
      rw [cnt_t hq] at m2
      have e2 : cnt (prI g (i + 1)) (isPr (gN g) (gS g)) = i + 1 := (prI_spec z).2.2
      omega
    · unfold bnd at h2
      rw [if_neg z] at h2
      have : cnt p (isPr (gN g) (gS g)) < pT g := (ixp_spec h2 hq).1
      omega
theorem gC_pr {g : GS} (p : Nat) (h : gC g p = true) : isPr (gN g) (gS g) p = true := by
  rw [gC_eq, Bool.and_eq_true] at h
  exact h.1
theorem gF_C {g : GS} (p : Nat) (h : gF g p = true) : gC g p = true := by
  unfold gF isF at h
  rw [Bool.and_eq_true] at h
  exact h.1
theorem gE_C {g : GS} (p : Nat) (h : gE g p = true) : gC g p = true := by
  unfold gE isE at h
  rw [Bool.and_eq_true] at h
  exact h.1
theorem gF_eq (g : GS) (p : Nat) : gF g p = (gC g p && fnd g p) := rfl
theorem gE_eq (g : GS) (p : Nat) : gE g p = (gC g p && !fnd g p) := rfl
theorem nF_le (g : GS) : nF g ≤ 132 := isF_le (Nat.le_refl 144)
theorem nE_le (g : GS) : nE g ≤ 132 := isE_le (Nat.le_refl 144)
/-- the candidates are gathered -/
def XC (I : Nat → Nat → Int32) (g : GS) : Prop := I 14 1 = nI (gm g) ∧ I 14 2 = nI (nF g) ∧ I 14 3 = nI (nE g) ∧ (∀ j, j < gm g → I 15 j = nI (ixp g (nth (gC g) 144 j))) ∧ (∀ j, j < nF g → I 17 j = nI (cnt (nth (gF g) 144 j) (gC g))) ∧ (∀ j, j < nE g → I 18 j = nI (cnt (nth (gE g) 144 j) (gC g)))
section XF
variable {σ : Sto} {g : GS}
set_option maxHeartbeats 1000000 in
theorem gather_ok {Post : Sto → Prop} (h : XI σ g) (hp : ∀ σ' : Sto, XI σ' g → XC σ'.1 g → Post σ') : X1_gather_wp σ Post := by
  have hpt := pT_le g
  intro K hK
  have prF : ∀ p, gF g p = true → isPr (gN g) (gS g) p = true := fun p q => gC_pr p (gF_C p q)
  have prE : ∀ p, gE g p = true → isPr (gN g) (gS g) p = true := fun p q => gC_pr p (gE_C p q)
  have lC : ∀ p, p ≤ 144 → cnt p (gC g) ≤ 132 := fun p hp => Nat.le_trans (cnt_mono_n _ hp) (gm_le g)
  have lF : ∀ p, p ≤ 144 → cnt p (gF g) ≤ 132 := fun p hp => Nat.le_trans (cnt_mono_n _ hp) (nF_le g)
  have lE : ∀ p, p ≤ 144 → cnt p (gE g) ≤ 132 := fun p hp => Nat.le_trans (cnt_mono_n _ hp) (nE_le g)
  have loop : ∀ j i, i + j = pT g → ∀ υ : Sto, Xk σ υ → υ.1 14 1 = nI (cnt (bnd g i) (gC g)) → υ.1 14 2 = nI (cnt (bnd g i) (gF g)) → υ.1 14 3 = nI (cnt (bnd g i) (gE g)) → (∀ j, j < cnt (bnd g i) (gC g) → υ.1 15 j = nI (ixp g (nth (gC g) 144 j))) → (∀ j, j < cnt (bnd g i) (gF g) → υ.1 17 j = nI (cnt (nth (gF g) 144 j) (gC g))) → (∀ j, j < cnt (bnd g i) (gE g) → υ.1 18 j = nI (cnt (nth (gE g) 144 j) (gC g))) → K υ (nI i) := by
    intro j
    induction j with
    | zero =>
      intro i hi υ k c1 c2 c3 c4 c5 c6
      have hi : i = pT g := hi
      subst hi
      rw [bnd_e] at c1 c2 c3 c4 c5 c6
      have hυ := h.kp k
      apply hK
      unfold X1_gather_b17
      rw [hυ.1.2.2.2.2.2.1]
      refine pk_le (pT g) (pT g) (fun _ => ?_) (fun z => by omega)
      exact hp υ hυ ⟨c1, c2, c3, c4, c5, c6⟩
    | succ j ih =>
      intro i hi υ k c1 c2 c3 c4 c5 c6
      have hi2 : i < pT g := by omega
      have hυ := h.kp k
      have hpi := prI_spec hi2
      have nx := ih (i + 1) (by omega)
      rw [bnd_s hi2 gC_pr, bnd_s hi2 prF, bnd_s hi2 prE] at nx
      rw [bnd_i hi2] at c1 c2 c3 c4 c5 c6
      have ist := hυ.state hi2
      have sl := stc_le (gar g) (ghid g) (prI g i)
      have hix := hpi.2.2
      have v : vp_in (nI i) 132 := vp_in_nI (by omega) (by decide)
      generalize hpe : prI g i = p at *
      have l1 := lC (p + 1) (by omega)
      have l2 := lF (p + 1) (by omega)
      have l3 := lE (p + 1) (by omega)
      apply hK
      unfold X1_gather_b17
      rw [hυ.1.2.2.2.2.2.1, nI_clamp (by omega), ist, nI_1]
      refine pk_le (pT g) i (fun z => by omega) (fun z => ⟨v, fun c => ?_, fun c => ?_⟩)
      · have hl := (stc1 _ _ _).mp ((nI_eq (b := 1) (by omega) (by omega)).mp c)
        have fC : gC g p = false := by rw [gC_eq, hl, Bool.not_true, Bool.and_false]
        have fF : gF g p = false := by rw [gF_eq, fC, Bool.false_and]
        have fE : gE g p = false := by rw [gE_eq, fC, Bool.false_and]
        rw [cnt_f fC, cnt_f fF, cnt_f fE] at nx
        exact nx υ k c1 c2 c3 c4 c5 c6
      · have tC : gC g p = true := by
          rw [gC_eq, hpi.1]
          cases e : lead (gar g) (ghid g) (p / 12) (p % 12)
          · rfl
          · exact absurd (by rw [(stc1 _ _ _).mpr e]; rfl) c
        rw [cnt_t tC] at nx l1
        unfold X1_addCandidate_wp
        rw [nI_clamp (by omega), ist, c1, c2, c3]
        refine ⟨v, fun d => ?_, fun d => ?_⟩
        · have hf : fnd g p = false := by
            cases e : fnd g p
            · rfl
            · exact absurd (by rw [(stc2 _ _ _).mpr e]; rfl) d
          have fF : gF g p = false := by rw [gF_eq, hf, Bool.and_false]
          have tE : gE g p = true := by rw [gE_eq, tC, hf]; rfl
          rw [cnt_f fF, cnt_t tE] at nx
          rw [cnt_t tE] at l3
          rw [nI_clamp (by omega), nI_clamp (by omega), nI_1, nI_1]
          refine ⟨vp_in_nI (by omega) (by decide), vp_in_nI (by omega) (by decide), ?_⟩
          refine nx _ ((((k.tr (Xk.i (by decide))).tr (Xk.i (by decide))).tr (Xk.i (by decide))).tr (Xk.i (by decide))) ?_ ?_ ?_ (fun j hj => ?_) (fun j hj => ?_) (fun j hj => ?_)
          · rw [sI_e]
          · rw [sI_n _ _ _ (by decide), sI_o _ _ _ (by decide), sI_n _ _ _ (by decide), sI_o _ _ _ (by decide)]
            exact c2
          · rw [sI_n _ _ _ (by decide), sI_o _ _ _ (by decide), sI_e]
          · rw [sI_o _ _ _ (by decide)]
            by_cases z : j = cnt p (gC g)
            · rw [z, sI_e, nth_cnt tC 144 (by omega), ← hix]
            · rw [sI_n _ _ _ z, sI_o _ _ _ (by decide), sI_o _ _ _ (by decide)]
              exact c4 j (by omega)
          · rw [sI_o _ _ _ (by decide), sI_o _ _ _ (by decide), sI_o _ _ _ (by decide), sI_o _ _ _ (by decide)]
            exact c5 j hj
          · rw [sI_o _ _ _ (by decide), sI_o _ _ _ (by decide), sI_o _ _ _ (by decide)]
            by_cases z : j = cnt p (gE g)
            · rw [z, sI_e, nth_cnt tE 144 (by omega)]
            · rw [sI_n _ _ _ z]
              exact c6 j (by omega)
        · have hf : fnd g p = true := (stc2 _ _ _).mp ((nI_eq (b := 2) (by omega) (by omega)).mp d)
          have tF : gF g p = true := by rw [gF_eq, tC, hf]; rfl
          have fE : gE g p = false := by rw [gE_eq, hf, Bool.not_true, Bool.and_false]
          rw [cnt_t tF, cnt_f fE] at nx
          rw [cnt_t tF] at l2
          rw [nI_clamp (by omega), nI_clamp (by omega), nI_1, nI_1]
          refine ⟨vp_in_nI (by omega) (by decide), vp_in_nI (by omega) (by decide), ?_⟩
          refine nx _ ((((k.tr (Xk.i (by decide))).tr (Xk.i (by decide))).tr (Xk.i (by decide))).tr (Xk.i (by decide))) ?_ ?_ ?_ (fun j hj => ?_) (fun j hj => ?_) (fun j hj => ?_)
          · rw [sI_e]
          · rw [sI_n _ _ _ (by decide), sI_o _ _ _ (by decide), sI_e]
          · rw [sI_n _ _ _ (by decide), sI_o _ _ _ (by decide), sI_n _ _ _ (by decide), sI_o _ _ _ (by decide)]
            exact c3
          · rw [sI_o _ _ _ (by decide)]
            by_cases z : j = cnt p (gC g)
            · rw [z, sI_e, nth_cnt tC 144 (by omega), ← hix]
            · rw [sI_n _ _ _ z, sI_o _ _ _ (by decide), sI_o _ _ _ (by decide)]
              exact c4 j (by omega)
          · rw [sI_o _ _ _ (by decide), sI_o _ _ _ (by decide), sI_o _ _ _ (by decide)]
            by_cases z : j = cnt p (gF g)
            · rw [z, sI_e, nth_cnt tF 144 (by omega)]
            · rw [sI_n _ _ _ z]
              exact c5 j (by omega)
          · rw [sI_o _ _ _ (by decide), sI_o _ _ _ (by decide), sI_o _ _ _ (by decide), sI_o _ _ _ (by decide)]
            exact c6 j hj
  have z1 := bnd_0 (g := g) gC_pr
  have z2 := bnd_0 (g := g) prF
  have z3 := bnd_0 (g := g) prE
  refine loop (pT g) 0 (by omega) _ (((Xk.i (by decide)).tr (Xk.i (by decide))).tr (Xk.i (by decide))) ?_ ?_ ?_ (fun j hj => by omega) (fun j hj => by omega) (fun j hj => by omega)
  · rw [sI_n _ _ _ (by decide), sI_n _ _ _ (by decide), sI_e, z1]
    exact nI_0.symm
  · rw [sI_n _ _ _ (by decide), sI_e, z2]
    exact nI_0.symm
  · rw [sI_e, z3]
    exact nI_0.symm
theorem nthC {i : Nat} (hi : i < gm g) : nth (gC g) 144 i < 144 ∧ gC g (nth (gC g) 144 i) = true ∧ prI g (ixp g (nth (gC g) 144 i)) = nth (gC g) 144 i ∧ ixp g (nth (gC g) 144 i) < pT g := by
  obtain ⟨a, b, -⟩ := nth_spec 144 i hi
  have := ixp_spec b (gC_pr _ a)
  exact ⟨b, a, this.2, this.1⟩
theorem mixBy_ok {Post : Sto → Prop} (h : XI σ g) (hc : XC σ.1 g) (hp : ∀ σ' : Sto, XI σ' g → σ'.1 = σ.1 → (∀ j, j < gm g → σ'.2 16 j = lz (gmv g (nth (gC g) 144 j))) → Post σ') : X1_mixBy_wp σ Post := by
  have hm := gm_le g
  intro K hK
  have loop : ∀ j i, i + j = gm g → ∀ υ : Sto, XI υ g → υ.1 = σ.1 → (∀ j, j < i → υ.2 16 j = lz (gmv g (nth (gC g) 144 j))) → K υ (nI i) := by
    intro j
    induction j with
    | zero =>
      intro i hi υ hυ u1 u2
      have hi : i = gm g := hi
      subst hi
      apply hK
      unfold X1_mixBy_b2
      rw [u1, hc.1]
      exact pk_le (gm g) (gm g) (fun _ => hp υ hυ u1 u2) (fun z => by omega)
    | succ j ih =>
      intro i hi υ hυ u1 u2
      have hi2 : i < gm g := by omega
      have hn := nthC hi2
      apply hK
      unfold X1_mixBy_b2
      rw [u1, hc.1, nI_clamp (by omega), hc.2.2.2.1 i hi2, nI_1]
      refine pk_le (gm g) i (fun z => by omega) (fun z => ⟨vp_in_nI (by omega) (by decide), ?_⟩)
      refine mixOf_ok hυ hυ.2.2.2.2.1 hn.2.2.2 ⟨vp_in_nI (by omega) (by decide), ?_⟩
      rw [hn.2.2.1]
      refine ih (i + 1) (by omega) _ (hυ.kp (Xk.j (by decide))) u1 (fun j hj => ?_)
      by_cases z : j = i
      · rw [z, sJ_e]
        rfl
      · rw [sJ_n _ _ _ z]
        exact u2 j (by omega)
  exact loop (gm g) 0 (by omega) σ h rfl (fun j hj => by omega)
theorem putInOrder_ok {m : Nat} {key : Nat → Int} {Post : Sto → Prop} (hm : m ≤ 132) (h14 : σ.1 14 1 = nI m) (hk : ∀ j, j < m → σ.2 16 j = lz (key j) ∧ (key j).natAbs < 2 ^ 63) (hp : ∀ σ' : Sto, (∀ k, k ≠ 19 → σ'.1 k = σ.1 k) → σ'.2 = σ.2 → (∀ j, j < m → σ'.1 19 j = nI (rk key m j)) → Post σ') : X1_putInOrder_wp σ Post := by
  intro K2 K12 h2 h12
  have loop : ∀ j i, i + j = m → ∀ υ : Sto, (∀ k, k ≠ 19 → υ.1 k = σ.1 k) → υ.2 = σ.2 → (∀ j, j < i → υ.1 19 j = nI (rk key i j)) → K2 υ (nI i) := by
    intro j
    induction j with
    | zero =>
      intro i hi υ u1 u2 u3
      have hi : i = m := hi
      subst hi
      apply h2
      unfold X1_putInOrder_b2
      rw [u1 14 (by decide), h14]
      exact pk_le i i (fun _ => hp υ u1 u2 u3) (fun z => by omega)
    | succ j ih =>
      intro i hi υ u1 u2 u3
      have hi2 : i < m := by omega
      apply h2
      unfold X1_putInOrder_b2
      rw [u1 14 (by decide), h14]
      refine pk_le m i (fun z => by omega) (fun z => ?_)
      have nx := ih (i + 1) (by omega)
      -- the end: i is laid at t
      have lay : ∀ t, t ≤ i → pos key (rk key i) i i = t → ∀ τ : Sto, (∀ k, k ≠ 19 → τ.1 k = σ.1 k) → τ.2 = σ.2 → (∀ j, j < t → τ.1 19 j = nI (rk key i j)) → (∀ j, t < j → j ≤ i → τ.1 19 j = nI (rk key i (j - 1))) → K2 (sI τ 19 t (nI i)) (nI (i + 1)) := by
        intro t ht hpos τ t1 t2 e1 e2
        refine nx _ (fun k hk => by rw [sI_o _ _ _ hk]; exact t1 k hk) t2 (fun j hj => ?_)
        show (sI τ 19 t (nI i)).1 19 j = nI (if j < pos key (rk key i) i i then rk key i j else if j = pos key (rk key i) i i then i else rk key i (j - 1))
        rw [hpos]
        by_cases q : j = t
        · subst q
          rw [sI_e, if_neg (Nat.lt_irrefl j), if_pos rfl]
        · rw [sI_n _ _ _ q]
          by_cases q2 : j < t
          · rw [if_pos q2]
            exact e1 j q2
          · rw [if_neg q2, if_neg q]
            exact e2 j (by omega) (by omega)
      have ins : ∀ t, t ≤ i → pos key (rk key i) i i = pos key (rk key i) i t → ∀ τ : Sto, (∀ k, k ≠ 19 → τ.1 k = σ.1 k) → τ.2 = σ.2 → (∀ j, j < t → τ.1 19 j = nI (rk key i j)) → (∀ j, t < j → j ≤ i → τ.1 19 j = nI (rk key i (j - 1))) → K12 τ (nI i) (nI t) := by
        intro t
        induction t with
        | zero =>
          intro ht hpos τ t1 t2 e1 e2
          apply h12
          unfold X1_putInOrder_b12
          rw [le0 (by omega), nI_clamp (by omega), nI_1]
          exact ⟨fun _ => ⟨vp_in_nI (by omega) (by decide), lay 0 ht hpos τ t1 t2 e1 e2⟩, fun q => absurd rfl q⟩
        | succ t iht =>
          intro ht hpos τ t1 t2 e1 e2
          have hrt := rk_lt key i t (by omega)
          have k1 := hk (rk key i t) (by omega)
          have k2 := hk i hi2
          apply h12
          unfold X1_putInOrder_b12
          rw [le0 (by omega), nI_pred, pk_m1, nI_clamp (by omega), nI_clamp (by omega), nI_clamp (by omega), e1 t (by omega), nI_clamp (by omega), t2, k1.1, k2.1, lg_cmp_ge, lz_le (by omega) (by omega) (by omega) (by omega), nI_1]
          have vt : vp_in (nI t) 132 := vp_in_nI (by omega) (by decide)
          have vt1 : vp_in (nI (t + 1)) 132 := vp_in_nI (by omega) (by decide)
          refine ⟨fun hz => absurd hz (by omega), fun _ => ⟨vt, vp_in_nI (by omega) (by decide), vp_in_nI (by omega) (by decide), fun c => ⟨vt1, ?_⟩, fun c => ⟨vt, vt1, ?_⟩⟩⟩
          · refine lay (t + 1) ht ?_ τ t1 t2 e1 e2
            rw [hpos]
            unfold pos
            rw [if_neg (by omega)]
          · refine iht (by omega) ?_ _ (fun k hk => by rw [sI_o _ _ _ hk]; exact t1 k hk) t2 (fun j hj => ?_) (fun j hj hj2 => ?_)
            · rw [hpos]
              show (if key (rk key i t) < key i then pos key (rk key i) i t else t + 1) = _
              rw [if_pos (by omega)]
            · rw [sI_n _ _ _ (by omega)]
              exact e1 j (by omega)
            · by_cases q : j = t + 1
              · subst q
                rw [sI_e, Nat.add_sub_cancel]
              · rw [sI_n _ _ _ q]
                exact e2 j (by omega) hj2
      exact ins i (Nat.le_refl i) rfl υ u1 u2 u3 (fun j h1 h2 => by omega)
  exact loop m 0 (by omega) σ (fun k _ => rfl) rfl (fun j hj => by omega)
theorem XC.cong {I J : Nat → Nat → Int32} (h : XC I g) (e : ∀ k, 14 ≤ k → k ≤ 18 → J k = I k) : XC J g := by
  unfold XC at h ⊢
  rw [e 14 (by decide) (by decide), e 15 (by decide) (by decide), e 17 (by decide) (by decide), e 18 (by decide) (by decide)]
  exact h
theorem rankAll_ok {Post : Sto → Prop} (h : XI σ g) (hp : ∀ σ' : Sto, XI σ' g → XC σ'.1 g → (∀ j, j < gm g → σ'.1 19 j = nI (rk (gkey g) (gm g) j)) → Post σ') : X7_rankAll_wp σ Post := by
  unfold X7_rankAll_wp
  refine gather_ok h (fun τ hτ cτ => mixBy_ok hτ cτ (fun υ hυ e1 e2 => ?_))
  have cυ : XC υ.1 g := by rw [e1]; exact cτ
  refine putInOrder_ok (key := gkey g) (gm_le g) cυ.1 (fun j hj => ⟨e2 j hj, hυ.mv_lt _⟩) (fun ω w1 w2 w3 => ?_)
  exact hp ω (hυ.kp ⟨fun k hk => w1 k (by omega), by rw [w2]⟩) (cυ.cong (fun k h1 h2 => w1 k (by omega))) w3
theorem pairAt_ok {k : Nat} {Post : Int32 → Sto → Prop} (hc : XC σ.1 g) (ho : ∀ j, j < gm g → σ.1 19 j = nI (rk (gkey g) (gm g) j)) (hk : k < gm g) (hp : Post (nI (ixp g (gord g k))) σ) : X1_pairAtPlace_wp σ (nI k) Post := by
  have hm := gm_le g
  have hr := rk_lt (gkey g) (gm g) k hk
  unfold X1_pairAtPlace_wp
  rw [nI_clamp (by omega), ho k hk, nI_clamp (by omega), hc.2.2.2.1 _ hr]
  exact ⟨vp_in_nI (by omega) (by decide), vp_in_nI (by omega) (by decide), hp⟩
theorem gord_ix {k : Nat} (hk : k < gm g) : prI g (ixp g (gord g k)) = gord g k ∧ ixp g (gord g k) < pT g := by
  have h := gord_lt hk
  have := ixp_spec h.1 (gC_pr _ h.2)
  exact ⟨this.2, this.1⟩
theorem xRanked_ok {k : Int32} {Post : Int32 → Sto → Prop} (h : XI σ g) (hp : ∀ σ' : Sto, XI σ' g → Post (rRanked g k) σ') : X7_ranked_wp σ k Post := by
  have hm := gm_le g
  have hpt := pT_le g
  unfold rRanked at hp
  have bad : okRk g k = false → Post (-2 : Int32) σ := fun q => by
    have := hp σ h
    rw [q, if_neg (by decide)] at this
    exact this
  unfold X7_ranked_wp
  refine ⟨fun c => bad (decide_eq_false (fun q => q.1 c)), fun c1 => candTotal_ok h ⟨fun c2 => ?_, fun c => bad (decide_eq_false (fun q => c q.2))⟩⟩
  have hok : okRk g k = true := decide_eq_true ⟨c1, c2⟩
  rw [hok, if_pos rfl] at hp
  obtain ⟨j, hj, e⟩ := nI_of c1
  have en : nn k = j := by unfold nn; rw [e, nI_clamp hj]
  rw [en] at hp
  subst e
  have hjm : j < gm g := (nI_ltI hj (by omega)).mp c2
  refine rankAll_ok h (fun τ hτ cτ oτ => pairAt_ok cτ oτ hjm ?_)
  have gi := gord_ix hjm
  have ft := hτ.fromto gi.2
  rw [gi.1] at ft
  rw [nI_clamp (by omega), ft.1, ft.2, show (16 : Int32) = nI 16 from rfl, pk_mul, nI_add]
  have v : vp_in (nI (ixp g (gord g j))) 132 := vp_in_nI (by omega) (by decide)
  exact ⟨v, v, hp τ hτ⟩
theorem xPlace_ok {a b : Int32} {Post : Int32 → Sto → Prop} (h : XI σ g) (hp : ∀ σ' : Sto, XI σ' g → Post (rPlace g a b) σ') : X7_place_wp σ a b Post := by
  have hm := gm_le g
  have hpt := pT_le g
  unfold rPlace at hp
  unfold X7_place_wp
  refine pairFor_ok h ?_
  cases ht : told (gN g) (gS g) a b
  · rw [pF_f ht]
    rw [ht, if_neg (by decide)] at hp
    exact ⟨fun q => absurd rfl q, fun _ => hp σ h⟩
  · rw [pF_t ht]
    obtain ⟨p, ep, p1, p2, p3, p4, p5, p6, p7⟩ := h.told ht
    rw [← ep, nI_clamp (by omega), h.state p4, p5]
    rw [ht, if_pos rfl, p7, ← ep] at hp
    have v : vp_in (nI (ixp g p)) 132 := vp_in_nI p6 (by decide)
    have sl := stc_le (gar g) (ghid g) p
    refine ⟨fun _ => ⟨v, fun c => ?_, fun c => ?_⟩, fun q => absurd q (nI_nm1 (by omega))⟩
    · have hl : lead (gar g) (ghid g) (p / 12) (p % 12) = false := by
        cases e : lead (gar g) (ghid g) (p / 12) (p % 12)
        · rfl
        · exact absurd (by rw [(stc1 _ _ _).mpr e]; rfl) c
      rw [hl, if_neg (by decide)] at hp
      have hC : gC g p = true := by rw [gC_eq, p2, hl]; rfl
      obtain ⟨w, hw, ew⟩ := gord_surj p1 hC
      refine rankAll_ok h (fun τ hτ cτ oτ => ?_)
      have hp := hp τ hτ
      intro K hK
      have loop : ∀ j i, i + j = gm g → i ≤ w → Post (nI (stpA (fun j => decide (gord g j = p)) j i)) τ → K τ (nI i) := by
        intro j
        induction j with
        | zero =>
          intro i hi hiw _
          omega
        | succ j ih =>
          intro i hi hiw hpo
          have him : i < gm g := by omega
          apply hK
          unfold X1_placeOfPair_b2
          rw [cτ.1]
          refine pk_le (gm g) i (fun z => by omega) (fun z => pairAt_ok cτ oτ him ?_)
          unfold stpA at hpo
          have gi := gord_ix him
          by_cases q : gord g i = p
          · rw [decide_eq_true q, if_pos rfl] at hpo
            exact ⟨fun r => absurd (by rw [q]) r, fun _ => hpo⟩
          · rw [decide_eq_false q, if_neg (by decide)] at hpo
            refine ⟨fun _ => ?_, fun r => absurd ?_ q⟩
            · rw [nI_1]
              refine ih (i + 1) (by omega) ?_ hpo
              rcases Nat.lt_or_ge i w with y | y
              · exact y
              · have : i = w := by omega
                rw [this] at q
                exact absurd ew q
            · have := (nI_eq (by omega) (by omega)).mp r
              rw [← gi.1, this, p5]
      exact loop (gm g) 0 (by omega) (Nat.zero_le _) hp
    · have hl := (stc1 _ _ _).mp ((nI_eq (b := 1) (by omega) (by omega)).mp c)
      rw [hl, if_pos rfl] at hp
      exact hp σ h
theorem xAmong_ok {k : Int32} {Post : Int32 → Sto → Prop} (h : XI σ g) (hp : ∀ σ' : Sto, XI σ' g → Post (rAmong g k) σ') : X7_among_wp σ k Post := by
  have hm := gm_le g
  have hpt := pT_le g
  unfold rAmong at hp
  have bad : okAm g k = false → Post (-2 : Int32) σ := fun q => by
    have := hp σ h
    rw [q, if_neg (by decide)] at this
    exact this
  unfold X7_among_wp
  refine ⟨fun c => bad (decide_eq_false (fun q => q.1 c)), fun c1 => candTotal_ok h ⟨fun c2 => ?_, fun c => bad (decide_eq_false (fun q => c q.2))⟩⟩
  have hok : okAm g k = true := decide_eq_true ⟨c1, c2⟩
  rw [hok, if_pos rfl] at hp
  obtain ⟨n, hn, e⟩ := nI_of c1
  have en : nn k = n := by unfold nn; rw [e, nI_clamp hn]
  rw [en] at hp
  subst e
  have hnm : n ≤ gm g := (nI_leI hn (by omega)).mp c2
  refine rankAll_ok h (fun τ hτ cτ oτ => ?_)
  have hp := hp τ hτ
  intro K hK
  refine down (fun i => K τ (nI (cnt i (fun j => fnd g (gord g j)))) (nI i)) n ?_ (fun i hi ih => ?_)
  · apply hK
    unfold X1_foundInFirst_b4
    exact pk_le n n (fun _ => hp) (fun z => by omega)
  · have him : i < gm g := by omega
    have gi := gord_ix him
    have ist := hτ.state gi.2
    rw [gi.1] at ist
    have sl := stc_le (gar g) (ghid g) (gord g i)
    apply hK
    unfold X1_foundInFirst_b4
    refine pk_le n i (fun z => by omega) (fun z => pairAt_ok cτ oτ him ?_)
    rw [nI_clamp (by omega), ist, nI_1, nI_1]
    refine ⟨vp_in_nI (by omega) (by decide), fun c => ?_, fun c => ?_⟩
    · have hf : fnd g (gord g i) = false := by
        cases e : fnd g (gord g i)
        · rfl
        · exact absurd (by rw [(stc2 _ _ _).mpr e]; rfl) c
      rw [cnt_f (f := fun j => fnd g (gord g j)) hf] at ih
      exact ih
    · have hf : fnd g (gord g i) = true := (stc2 _ _ _).mp ((nI_eq (b := 2) (by omega) (by omega)).mp c)
      rw [cnt_t (f := fun j => fnd g (gord g j)) hf] at ih
      exact ih
theorem judged_ok {Post : Int32 → Sto → Prop} (hc : XC σ.1 g) (hp : Post (b2i (okSh g)) σ) : X1_canBeJudged_wp σ Post := by
  have b1 := nF_le g
  have b2 := nE_le g
  unfold X1_canBeJudged_wp
  unfold okSh at hp
  rw [hc.2.1, hc.2.2.1, le0 (by omega), le0 (by omega)]
  refine ⟨fun z => ?_, fun z => ⟨fun y => ?_, fun y => ?_⟩⟩
  · rw [decide_eq_false (by omega)] at hp
    exact hp
  · rw [decide_eq_false (by omega)] at hp
    exact hp
  · rw [decide_eq_true (by omega)] at hp
    exact hp
theorem halvesOf_ok {P Q : Int} {Post : Int32 → Sto → Prop} (h1 : P.natAbs < 2 ^ 63) (h2 : Q.natAbs < 2 ^ 63) (hp : Post (nI (win P Q)) σ) : X1_halvesOf_wp σ (lz P) (lz Q) Post := by
  unfold X1_halvesOf_wp
  unfold win at hp
  rw [lg_cmp_le, lg_cmp_eq, lz_le (by omega) (by omega) (by omega) (by omega), lz_eq (by omega) (by omega) (by omega) (by omega)]
  refine ⟨fun c => ⟨fun d => ?_, fun d => ?_⟩, fun c => ?_⟩
  · rw [if_pos (by omega)] at hp
    exact hp
  · rw [if_neg (by omega), if_pos d] at hp
    exact hp
  · rw [if_neg (by omega), if_neg (by omega)] at hp
    exact hp
theorem fndAt {j : Nat} (hj : j < nF g) : cnt (nth (gF g) 144 j) (gC g) < gm g ∧ nth (gC g) 144 (cnt (nth (gF g) 144 j) (gC g)) = nth (gF g) 144 j := by
  obtain ⟨a, b, -⟩ := nth_spec 144 j hj
  have hC := gF_C _ a
  refine ⟨?_, nth_cnt hC 144 b⟩
  have := cnt_mono_n (gC g) (show nth (gF g) 144 j + 1 ≤ 144 by omega)
  rw [cnt_t hC] at this
  exact this
theorem empAt {j : Nat} (hj : j < nE g) : cnt (nth (gE g) 144 j) (gC g) < gm g ∧ nth (gC g) 144 (cnt (nth (gE g) 144 j) (gC g)) = nth (gE g) 144 j := by
  obtain ⟨a, b, -⟩ := nth_spec 144 j hj
  have hC := gE_C _ a
  refine ⟨?_, nth_cnt hC 144 b⟩
  have := cnt_mono_n (gC g) (show nth (gE g) 144 j + 1 ≤ 144 by omega)
  rw [cnt_t hC] at this
  exact this
theorem halvesWon_ok {mv : Nat → Int} {Post : Int32 → Sto → Prop} (hc : XC σ.1 g) (hv : ∀ j, j < gm g → σ.2 16 j = lz (mv (nth (gC g) 144 j))) (hl : ∀ p, (mv p).natAbs < 2 ^ 63) (hp : Post (nI (shr (gF g) (gE g) mv (nF g))) σ) : X1_halvesWon_wp σ Post := by
  have b1 := nF_le g
  have b2 := nE_le g
  have b3 := gm_le g
  intro K4 K27 h4 h27
  refine down (fun i => K4 σ (nI (shr (gF g) (gE g) mv i)) (nI i)) (nF g) ?_ (fun i hi ih => ?_)
  · apply h4
    unfold X1_halvesWon_b4
    rw [hc.2.1]
    exact pk_le (nF g) (nF g) (fun _ => hp) (fun z => by omega)
  · have fa := fndAt hi
    apply h4
    unfold X1_halvesWon_b4
    rw [hc.2.1]
    refine pk_le (nF g) i (fun z => by omega) (fun z => ?_)
    rw [nI_clamp (by omega), hc.2.2.2.2.1 i hi, nI_clamp (by omega), hv _ fa.1, fa.2]
    refine ⟨vp_in_nI (by omega) (by decide), vp_in_nI (by omega) (by decide), ?_⟩
    refine down (fun j => K27 σ (nI (shr (gF g) (gE g) mv i + smN j (fun j => win (mv (nth (gF g) 144 i)) (mv (nth (gE g) 144 j))))) (nI i) (lz (mv (nth (gF g) 144 i))) (nI j)) (nE g) ?_ (fun j hj ih2 => ?_)
    · apply h27
      unfold X1_halvesWon_b27
      rw [hc.2.2.1, nI_1]
      exact pk_le (nE g) (nE g) (fun _ => ih) (fun z => by omega)
    · have ea := empAt hj
      apply h27
      unfold X1_halvesWon_b27
      rw [hc.2.2.1]
      refine pk_le (nE g) j (fun z => by omega) (fun z => ?_)
      rw [nI_clamp (by omega), hc.2.2.2.2.2 j hj, nI_clamp (by omega), hv _ ea.1, ea.2]
      refine ⟨vp_in_nI (by omega) (by decide), vp_in_nI (by omega) (by decide), ?_⟩
      refine halvesOf_ok (hl _) (hl _) ?_
      rw [nI_add, nI_1]
      rw [smN_s, ← Nat.add_assoc] at ih2
      exact ih2
theorem shown_ok {a b : Nat} {Post : Sto → Prop} (h : XI σ g) (ha : a < 2 ^ 31) (hb0 : 0 < b) (hb : b < 2 ^ 31) (hp : ∀ σ' : Sto, XI σ' (gFr g a b) → Post σ') : X0_show_wp σ (lz (a : Nat)) (lz (b : Nat)) Post := by
  refine xshow_ok (by omega) (by omega) hb0 (by omega) ?_
  rw [Int.natAbs_natCast, ← Int.natCast_ediv]
  exact hp _ (h.bd _ _)
theorem inAll_ok {Post : Int32 → Sto → Prop} (hc : XC σ.1 g) (hp : Post (nI (2 * nF g * nE g)) σ) : X1_halvesInAll_wp σ Post := by
  unfold X1_halvesInAll_wp
  rw [hc.2.1, hc.2.2.1, show (2 : Int32) = nI 2 from rfl, pk_mul, pk_mul]
  exact hp
theorem xShare_ok {Post : Int32 → Sto → Prop} (h : XI σ g) (hp : ∀ σ' : Sto, XI σ' (gShare g) → Post (rShare g) σ') : X7_share_wp σ Post := by
  have b1 := nF_le g
  have b2 := nE_le g
  unfold X7_share_wp
  unfold gShare rShare at hp
  refine gather_ok h (fun τ hτ cτ => judged_ok cτ (b2i_if _ (fun ok => ?_) (fun ok => ?_)))
  · rw [ok, if_pos rfl, if_pos rfl] at hp
    have okd := of_decide_eq_true ok
    refine mixBy_ok hτ cτ (fun υ hυ e1 e2 => ?_)
    have cυ : XC υ.1 g := by rw [e1]; exact cτ
    refine halvesWon_ok cυ e2 (fun p => hυ.mv_lt p) (inAll_ok cυ ?_)
    have s1 := shr_le (gF g) (gE g) (gmv g) (nF g)
    have s2 : nF g * (cnt 144 (gE g) * 2) ≤ 132 * (132 * 2) := Nat.mul_le_mul b1 (Nat.mul_le_mul_right 2 b2)
    have s3 : 2 * nF g * nE g ≤ 2 * 132 * 132 := Nat.mul_le_mul (Nat.mul_le_mul_left 2 b1) b2
    have s4 : 0 < 2 * nF g * nE g := Nat.mul_pos (Nat.mul_pos (by decide) okd.1) okd.2
    rw [nI_lz (by omega), nI_lz (by omega)]
    exact shown_ok hυ (by omega) s4 (by omega) hp
  · rw [ok, if_neg (by decide), if_neg (by decide)] at hp
    exact hp τ hτ
theorem xSample_ok {seed : Int32} {Post : Int32 → Sto → Prop} (h : XI σ g) (hp : ∀ σ' : Sto, XI σ' (gSample g seed) → Post (rShare g) σ') : X7_sample_wp σ seed Post := by
  have b1 := nF_le g
  have b2 := nE_le g
  have b3 := gm_le g
  unfold X7_sample_wp
  unfold gSample rShare at hp
  refine gather_ok h (fun τ hτ cτ => judged_ok cτ (b2i_if _ (fun ok => ?_) (fun ok => ?_)))
  · rw [ok, if_pos rfl, if_pos rfl] at hp
    have okd := of_decide_eq_true ok
    refine mixBy_ok hτ cτ (fun υ hυ e1 e2 => ?_)
    have cυ : XC υ.1 g := by rw [e1]; exact cτ
    unfold X2_startFrom_wp
    intro K hK
    have loop : ∀ j i, i + j = nF g → ∀ ω : Sto, (∀ k, k ≠ 28 → ω.1 k = υ.1 k) → ω.2 = υ.2 → ω.1 28 0 = zsq seed i → K ω (nI (smpl g seed i)) (nI i) := by
      intro j
      induction j with
      | zero =>
        intro i hi ω w1 w2 wz
        have hi : i = nF g := hi
        subst hi
        apply hK
        unfold X1_halvesWonByDraws_b4
        have e14 : ω.1 14 2 = nI (nF g) := by rw [w1 14 (by decide)]; exact cυ.2.1
        rw [e14]
        refine pk_le (nF g) (nF g) (fun _ => ?_) (fun z => by omega)
        have s1 : smpl g seed (nF g) ≤ nF g * 2 := smN_le (fun i _ => win_le _ _)
        show X0_show_wp ω (nI (smpl g seed (nF g))).toInt64 (2 * (ω.1 14 2).toInt64) (fun σ6 => Post 1 σ6)
        rw [e14, nI_lz (by omega), nI_lz (by omega), lz_2, lz_mul, show (2 : Int) * ((nF g : Nat) : Int) = ((2 * nF g : Nat) : Int) by omega]
        have hω : XI ω g := hυ.kp ⟨fun k hk => w1 k (by omega), by rw [w2]⟩
        exact shown_ok hω (by omega) (by omega) (by omega) hp
      | succ j ih =>
        intro i hi ω w1 w2 wz
        have hi2 : i < nF g := by omega
        have hd := drN_lt seed i
        have hmod : drN seed i % nE g < nE g := Nat.mod_lt _ okd.2
        have fa := fndAt hi2
        have ea := empAt hmod
        apply hK
        unfold X1_halvesWonByDraws_b4
        have e14 : ω.1 14 = υ.1 14 := w1 14 (by decide)
        rw [e14, cυ.2.1, cυ.2.2.1, le0 (by omega)]
        refine pk_le (nF g) i (fun z => by omega) (fun z => ⟨fun y => absurd y (by omega), fun _ => ?_⟩)
        unfold X2_next_wp
        rw [wz]
        have u14 : (sI ω 28 0 (zsq seed (i + 1))).1 14 3 = nI (nE g) := by rw [sI_o _ _ _ (by decide), e14]; exact cυ.2.2.1
        show ¬ (sI ω 28 0 (zsq seed (i + 1))).1 14 3 = 0 ∧ vp_in (drw seed i - drw seed i / (sI ω 28 0 (zsq seed (i + 1))).1 14 3 * (sI ω 28 0 (zsq seed (i + 1))).1 14 3) 132 ∧ vp_in (nI i) 132 ∧ vp_in ((sI ω 28 0 (zsq seed (i + 1))).1 17 (nI i).toNatClampNeg) 132 ∧ vp_in ((sI ω 28 0 (zsq seed (i + 1))).1 18 (drw seed i - drw seed i / (sI ω 28 0 (zsq seed (i + 1))).1 14 3 * (sI ω 28 0 (zsq seed (i + 1))).1 14 3).toNatClampNeg) 132 ∧ X1_halvesOf_wp (sI ω 28 0 (zsq seed (i + 1))) (ω.2 16 ((sI ω 28 0 (zsq seed (i + 1))).1 17 (nI i).toNatClampNeg).toNatClampNeg) (ω.2 16 ((sI ω 28 0 (zsq seed (i + 1))).1 18 (drw seed i - drw seed i / (sI ω 28 0 (zsq seed (i + 1))).1 14 3 * (sI ω 28 0 (zsq seed (i + 1))).1 14 3).toNatClampNeg).toNatClampNeg) (fun r2 σ2 => K σ2 (nI (smpl g seed i) + r2) (nI i + 1))
        rw [u14, drw_eq, pk_rem (by omega) okd.2 (by omega), nI_clamp (by omega), nI_clamp (by omega), sI_o _ _ _ (by decide), sI_o _ _ _ (by decide), w1 17 (by decide), w1 18 (by decide), cυ.2.2.2.2.1 i hi2, cυ.2.2.2.2.2 _ hmod, nI_clamp (by omega), nI_clamp (by omega), w2, e2 _ fa.1, e2 _ ea.1, fa.2, ea.2]
        refine ⟨nI_ne0 okd.2 (by omega), vp_in_nI (by omega) (by decide), vp_in_nI (by omega) (by decide), vp_in_nI (by omega) (by decide), vp_in_nI (by omega) (by decide), ?_⟩
        refine halvesOf_ok (hυ.mv_lt _) (hυ.mv_lt _) ?_
        rw [nI_add, nI_1]
        exact ih (i + 1) (by omega) _ (fun k hk => by rw [sI_o _ _ _ hk]; exact w1 k hk) w2 (sI_e _ _ _ _)
    exact loop (nF g) 0 (by omega) (sI υ 28 0 seed) (fun k hk => by rw [sI_o _ _ _ hk]) rfl (sI_e _ _ _ _)
  · rw [ok, if_neg (by decide), if_neg (by decide)] at hp
    exact hp τ hτ
end XF
