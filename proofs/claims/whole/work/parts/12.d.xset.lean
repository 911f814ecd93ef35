/-! the class: setLeads, setHidden, addArc, lay, startAnew -/
def setF (S a b : Nat) (v : Bool) (F : Nat → Nat → Bool) : Nat → Nat → Bool := fun x y => if (x = a ∧ y = b) ∨ (S ≠ 1 ∧ x = b ∧ y = a) then v else F x y
def RepM (I : Nat → Nat → Int32) (F : Nat → Nat → Bool) : Prop := ∀ x, x < 12 → rep (I 9 x) (F x) ∧ rep (I 10 x) (fun y => F y x)
theorem setLeads_ok {σ : Sto} {a b : Nat} {l : Bool} {F : Nat → Nat → Bool} {Post : Sto → Prop} (hF : RepM σ.1 F) (ha : a < 12) (hb : b < 12) (hp : ∀ σ' : Sto, (∀ k, k ≠ 9 → k ≠ 10 → σ'.1 k = σ.1 k) → σ'.2 = σ.2 → RepM σ'.1 (fun x y => if x = a ∧ y = b then l else F x y) → Post σ') : X6_setLeads_wp σ (nI a) (nI b) (b2i l) Post := by
  have va : vp_in (nI a) 12 := vp_in_nI ha (by decide)
  have vb : vp_in (nI b) 12 := vp_in_nI hb (by decide)
  have fin : ∀ (x y : Int32), rep x (fun j => if j = b then l else F a j) → rep y (fun j => if j = a then l else F j b) → Post (sI (sI σ 9 a x) 10 b y) := by
    intro x y hx hy
    refine hp _ (fun k h1 h2 => by rw [sI_o _ _ _ h2, sI_o _ _ _ h1]) rfl (fun z hz => ⟨?_, ?_⟩)
    · rw [sI_o _ _ _ (by decide)]
      by_cases e : z = a
      · subst e
        rw [sI_e]
        refine hx.cong (fun j _ => ?_)
        show (if j = b then l else F z j) = (if z = z ∧ j = b then l else F z j)
        by_cases q : j = b
        · rw [if_pos q, if_pos ⟨rfl, q⟩]
        · rw [if_neg q, if_neg (fun r => q r.2)]
      · rw [sI_n _ _ _ e]
        refine (hF z hz).1.cong (fun j _ => ?_)
        show F z j = (if z = a ∧ j = b then l else F z j)
        rw [if_neg (fun r => e r.1)]
    · by_cases e : z = b
      · subst e
        rw [sI_e]
        refine hy.cong (fun j _ => ?_)
        show (if j = a then l else F j z) = (if j = a ∧ z = z then l else F j z)
        by_cases q : j = a
        · rw [if_pos q, if_pos ⟨q, rfl⟩]
        · rw [if_neg q, if_neg (fun r => q r.1)]
      · rw [sI_n _ _ _ e, sI_o _ _ _ (by decide)]
        refine (hF z hz).2.cong (fun j _ => ?_)
        show F j z = (if j = a ∧ z = b then l else F j z)
        rw [if_neg (fun r => e r.2)]
  unfold X6_setLeads_wp
  rw [nI_clamp (by omega), nI_clamp (by omega)]
  cases l
  · refine ⟨fun _ => ⟨va, va, fun _ => ⟨vb, vb, ?_⟩, fun q => absurd rfl q⟩, fun q => absurd rfl q⟩
    refine fin _ _ (((hF a ha).1.without hb).cong (fun j _ => ?_)) (((hF b hb).2.without ha).cong (fun j _ => ?_))
    · by_cases q : j = b
      · rw [if_pos q, decide_eq_true q.symm, Bool.not_true, Bool.and_false]
      · rw [if_neg q, decide_eq_false (fun r => q r.symm), Bool.not_false, Bool.and_true]
    · by_cases q : j = a
      · rw [if_pos q, decide_eq_true q.symm, Bool.not_true, Bool.and_false]
      · rw [if_neg q, decide_eq_false (fun r => q r.symm), Bool.not_false, Bool.and_true]
  · refine ⟨fun q => absurd q (by decide), fun _ => ⟨va, va, fun q => absurd q (by decide), fun _ => ⟨vb, vb, ?_⟩⟩⟩
    refine fin _ _ (((hF a ha).1.or (rep_one hb)).cong (fun j _ => ?_)) (((hF b hb).2.or (rep_one ha)).cong (fun j _ => ?_))
    · by_cases q : j = b
      · rw [if_pos q, decide_eq_true q.symm, Bool.or_true]
      · rw [if_neg q, decide_eq_false (fun r => q r.symm), Bool.or_false]
    · by_cases q : j = a
      · rw [if_pos q, decide_eq_true q.symm, Bool.or_true]
      · rw [if_neg q, decide_eq_false (fun r => q r.symm), Bool.or_false]
theorem setHidden_lo {σ : Sto} {i a b S : Nat} {is : Bool} {F : Nat → Nat → Bool} {Post : Sto → Prop} (hF : RepM σ.1 F) (hi : i < 132) (ea : σ.1 2 i = nI a) (eb : σ.1 3 i = nI b) (eS : σ.1 1 1 = nI S) (hS : S ≤ 2) (ha : a < 12) (hb : b < 12) (hp : ∀ σ' : Sto, (∀ k, k ≠ 4 → k ≠ 9 → k ≠ 10 → σ'.1 k = σ.1 k) → σ'.2 = σ.2 → (∀ j, σ'.1 4 j = if j = i then nI (if is then 2 else 1) else σ.1 4 j) → RepM σ'.1 (setF S a b (!is) F) → Post σ') : X6_setHidden_wp σ (nI i) (b2i is) Post := by
  have v : vp_in (nI i) 132 := vp_in_nI hi (by decide)
  have hF4 : ∀ x : Int32, RepM (sI σ 4 i x).1 F := fun x z hz => by
    rw [sI_o _ _ _ (by decide), sI_o _ _ _ (by decide)]
    exact hF z hz
  -- both setLeads, for a value
  have two : ∀ (l : Bool), l = !is → X6_setLeads_wp (sI σ 4 i (nI (if is then 2 else 1))) (nI a) (nI b) (b2i l) (fun σ1 => ((σ1.1 1 1) = (1 : Int32) → Post σ1) ∧ (¬ (σ1.1 1 1) = (1 : Int32) → X6_setLeads_wp σ1 (nI b) (nI a) (b2i l) (fun σ2 => Post σ2))) := by
    intro l hl
    refine setLeads_ok (hF4 _) ha hb (fun τ k1 k2 hτ => ?_)
    have e1 : τ.1 1 1 = nI S := by rw [k1 1 (by decide) (by decide), sI_o _ _ _ (by decide)]; exact eS
    have e4 : ∀ j, τ.1 4 j = if j = i then nI (if is then 2 else 1) else σ.1 4 j := fun j => by rw [k1 4 (by decide) (by decide), sI_s]
    rw [e1]
    refine pk_eq S 1 (fun s1 => ?_) (fun s1 => ?_)
    · refine hp τ (fun k h1 h2 h3 => by rw [k1 k h2 h3, sI_o _ _ _ h1]) k2 e4 ?_
      have : (fun x y => if x = a ∧ y = b then l else F x y) = setF S a b (!is) F := by
        funext x y
        unfold setF
        by_cases q : x = a ∧ y = b
        · rw [if_pos q, if_pos (Or.inl q), hl]
        · rw [if_neg q, if_neg (fun r => r.elim q (fun r => r.1 s1))]
      rw [← this]
      exact hτ
    · refine setLeads_ok hτ hb ha (fun υ j1 j2 hυ => ?_)
      refine hp υ (fun k h1 h2 h3 => by rw [j1 k h2 h3, k1 k h2 h3, sI_o _ _ _ h1]) (j2.trans k2) (fun j => by rw [j1 4 (by decide) (by decide)]; exact e4 j) ?_
      have : (fun x y => if x = b ∧ y = a then l else if x = a ∧ y = b then l else F x y) = setF S a b (!is) F := by
        funext x y
        unfold setF
        by_cases q : x = b ∧ y = a
        · rw [if_pos q, if_pos (Or.inr ⟨s1, q⟩), hl]
        · rw [if_neg q]
          by_cases q2 : x = a ∧ y = b
          · rw [if_pos q2, if_pos (Or.inl q2), hl]
          · rw [if_neg q2, if_neg (fun r => r.elim q2 (fun r => q r.2))]
      rw [← this]
      exact hυ
  unfold X6_setHidden_wp
  rw [nI_clamp (by omega), ea, eb]
  cases is
  · have t := two true rfl
    refine ⟨v, v, fun _ => ⟨v, fun q => absurd rfl q, fun _ => ?_⟩, fun q => absurd rfl q⟩
    unfold X6_setLeads_wp at t ⊢
    have conv : ∀ σ1 : Sto, (((σ1.1 1 1) = (1 : Int32) → Post σ1) ∧ (¬ (σ1.1 1 1) = (1 : Int32) → X6_setLeads_wp σ1 (nI b) (nI a) (b2i true) (fun σ2 => Post σ2))) → (((σ1.1 1 1) = (1 : Int32) → Post σ1) ∧ (¬ (σ1.1 1 1) = (1 : Int32) → ((¬ b2i false = 0 → X6_setLeads_wp σ1 (nI b) (nI a) (0 : Int32) (fun σ2 => Post σ2)) ∧ (b2i false = 0 → X6_setLeads_wp σ1 (nI b) (nI a) (1 : Int32) (fun σ3 => Post σ3))))) := fun σ1 q => ⟨q.1, fun r => ⟨fun z => absurd rfl z, fun _ => q.2 r⟩⟩
    refine ⟨fun q => absurd q (by decide), fun _ => ?_⟩
    have t := t.2 (by decide)
    refine ⟨t.1, t.2.1, fun q => absurd q (by decide), fun _ => ?_⟩
    have t := t.2.2.2 (by decide)
    exact ⟨t.1, t.2.1, conv _ t.2.2⟩
  · have t := two false rfl
    refine ⟨v, v, fun q => absurd q (by decide), fun _ => ⟨v, fun _ => ?_, fun q => absurd q (by decide)⟩⟩
    unfold X6_setLeads_wp at t ⊢
    have conv : ∀ σ1 : Sto, (((σ1.1 1 1) = (1 : Int32) → Post σ1) ∧ (¬ (σ1.1 1 1) = (1 : Int32) → X6_setLeads_wp σ1 (nI b) (nI a) (b2i false) (fun σ2 => Post σ2))) → (((σ1.1 1 1) = (1 : Int32) → Post σ1) ∧ (¬ (σ1.1 1 1) = (1 : Int32) → ((¬ b2i true = 0 → X6_setLeads_wp σ1 (nI b) (nI a) (0 : Int32) (fun σ2 => Post σ2)) ∧ (b2i true = 0 → X6_setLeads_wp σ1 (nI b) (nI a) (1 : Int32) (fun σ3 => Post σ3))))) := fun σ1 q => ⟨q.1, fun r => ⟨fun _ => q.2 r, fun z => absurd z (by decide)⟩⟩
    refine ⟨fun _ => ?_, fun q => absurd rfl q⟩
    have t := t.1 rfl
    refine ⟨t.1, t.2.1, fun _ => ?_, fun q => absurd rfl q⟩
    have t := t.2.2.1 rfl
    exact ⟨t.1, t.2.1, conv _ t.2.2⟩
section XH
variable {σ : Sto} {g : GS}
theorem XI.hidden {τ : Sto} {k : Nat} {is : Bool} (h : XI σ g) (hk : k < gc g) (e1 : ∀ j, j ≤ 13 → j ≠ 4 → j ≠ 9 → j ≠ 10 → τ.1 j = σ.1 j) (e2 : τ.2 29 = σ.2 29) (e4 : ∀ j, τ.1 4 j = if j = ixp g (gpo g k) then nI (if is then 2 else 1) else σ.1 4 j) (eF : RepM τ.1 (setF (gS g) (gpo g k / 12) (gpo g k % 12) (!is) (lead (gar g) (ghid g)))) : XI τ (gHid g (upN (ghid g) k is)) := by
  obtain ⟨a1, a2, a3, a4, a5, a6, a7, a8⟩ := h
  have hK := a8.1 k hk
  have hx := ixp_spec hK.1 hK.2.1
  refine ⟨?_, ⟨?_, ?_, ?_⟩, ?_, ?_, ?_, ?_, ?_, a8⟩
  · have : XN τ.1 g := by
      unfold XN at a1 ⊢
      rw [e1 1 (by decide) (by decide) (by decide) (by decide), e1 2 (by decide) (by decide) (by decide) (by decide), e1 3 (by decide) (by decide) (by decide) (by decide), e1 7 (by decide) (by decide) (by decide) (by decide)]
      exact a1
    exact this
  · show ∀ i, i < pT g → τ.1 4 i = nI (stc (gar g) (upN (ghid g) k is) (prI g i))
    intro i hi
    have hp := prI_spec hi
    rw [e4 i]
    by_cases q : i = ixp g (gpo g k)
    · rw [if_pos q, q, hx.2]
      unfold stc
      rw [hK.2.2.1, if_neg (show ¬ k + 1 = 0 by omega), Nat.add_sub_cancel, upN_e]
    · rw [if_neg q, a2.1 i hi]
      have hne : prI g i ≠ gpo g k := fun r => q (by rw [← hp.2.2, r])
      show nI (stc (gar g) (ghid g) (prI g i)) = _
      unfold stc
      by_cases z : gar g (prI g i) = 0
      · rw [if_pos z, if_pos z]
      · rw [if_neg z, if_neg z, upN_n]
        intro r
        obtain ⟨-, b2⟩ := a8.2 (prI g i) hp.2.1 (by omega)
        rw [r] at b2
        rcases b2 with b2 | ⟨hS, b2⟩
        · exact hne b2
        · have := hp.1
          rw [b2, isPr_swp hK.1 hS hK.2.1] at this
          cases this
  · show ∀ k, k < gc g → τ.1 6 k = nI (cnt (gpo g k) (isPr (gN g) (gS g))) ∧ τ.1 5 (cnt (gpo g k) (isPr (gN g) (gS g))) = gtm g k
    rw [e1 6 (by decide) (by decide) (by decide) (by decide), e1 5 (by decide) (by decide) (by decide) (by decide)]
    exact a2.2.1
  · have : setF (gS g) (gpo g k / 12) (gpo g k % 12) (!is) (lead (gar g) (ghid g)) = setF (gS g) (gpo g k / 12) (gpo g k % 12) (!is) (lead (gar g) (ghid g)) := rfl
    have key : ∀ x y, x < 12 → y < 12 → setF (gS g) (gpo g k / 12) (gpo g k % 12) (!is) (lead (gar g) (ghid g)) x y = lead (gar g) (upN (ghid g) k is) x y := by
      intro x y hx9 hy9
      have hm : gpo g k % 12 < 12 := Nat.mod_lt _ (by decide)
      have hdm := Nat.div_add_mod (gpo g k) 12
      unfold setF
      by_cases q : (x = gpo g k / 12 ∧ y = gpo g k % 12) ∨ (gS g ≠ 1 ∧ x = gpo g k % 12 ∧ y = gpo g k / 12)
      · rw [if_pos q]
        have har : gar g (12 * x + y) = k + 1 := by
          rcases q with q | q
          · rw [q.1, q.2, hdm]
            exact hK.2.2.1
          · have e : 12 * x + y = swp (gpo g k) := by
              unfold swp
              rw [q.2.1, q.2.2]
            rw [e]
            exact hK.2.2.2 q.1
        unfold lead
        rw [har, Nat.add_sub_cancel, upN_e]
        simp
      · rw [if_neg q]
        unfold lead
        by_cases z : gar g (12 * x + y) = 0
        · rw [z]
          rfl
        · rw [upN_n]
          intro r
          apply q
          obtain ⟨-, b2⟩ := a8.2 (12 * x + y) (by omega) (by omega)
          rw [r] at b2
          rcases b2 with b2 | ⟨hS, b2⟩
          · left
            omega
          · right
            have hs := swp_div hK.1
            rw [← b2] at hs
            refine ⟨hS, ?_, ?_⟩ <;> omega
    intro x hx9
    exact ⟨(eF x hx9).1.cong (fun y hy => key x y hx9 hy), (eF x hx9).2.cong (fun y hy => key y x hy hx9)⟩
  · unfold XG at a3 ⊢
    rw [e1 8 (by decide) (by decide) (by decide) (by decide)]
    exact a3
  · unfold XP at a4 ⊢
    rw [e1 11 (by decide) (by decide) (by decide) (by decide)]
    exact a4
  · unfold XW at a5 ⊢
    rw [e1 13 (by decide) (by decide) (by decide) (by decide)]
    exact a5
  · rw [e2]; exact a6
  · rw [e2]; exact a7
theorem setHidden_ok {k : Nat} {is : Bool} {Post : Sto → Prop} (h : XI σ g) (hk : k < gc g) (hp : ∀ σ' : Sto, XI σ' (gHid g (upN (ghid g) k is)) → σ'.1 28 = σ.1 28 → Post σ') : X6_setHidden_wp σ (nI (ixp g (gpo g k))) (b2i is) Post := by
  have hGI := h.2.2.2.2.2.2.2
  have hN := h.1.2.2.1
  have hpt := pT_le g
  have hK := hGI.1 k hk
  have hx := ixp_spec hK.1 hK.2.1
  have hpr := isPr_iff.mp hK.2.1
  have ft := h.fromto hx.1
  rw [hx.2] at ft
  refine setHidden_lo (F := lead (gar g) (ghid g)) (fun x hx9 => h.2.1.2.2 x hx9) (by omega) ft.1 ft.2 h.1.2.2.2.1 h.1.2.2.2.2.1 (by omega) (by omega) (fun τ e1 e2 e4 eF => ?_)
  exact hp τ (h.hidden hk (fun j _ h1 h2 h3 => e1 j h1 h2 h3) (by rw [e2]) e4 eF) (e1 28 (by decide) (by decide) (by decide))
end XH
theorem fillS_s (σ : Sto) (k n : Nat) (v : Int32) (j : Nat) : (fillS σ k n v).1 k j = if j < n then v else σ.1 k j := by simp [fillS]
theorem fillS_o (σ : Sto) {k k' : Nat} (n : Nat) (v : Int32) (h : k' ≠ k) : (fillS σ k n v).1 k' = σ.1 k' := by simp [fillS, h]
theorem makesPair_ok {σ : Sto} {N S a b : Nat} {Post : Int32 → Sto → Prop} (e0 : σ.1 1 0 = nI N) (hN : N ≤ 12) (e1 : σ.1 1 1 = nI S) (hS : S ≤ 2) (ha : a < 2 ^ 31) (hb : b < 2 ^ 31) (hp : Post (b2i (isP N S a b)) σ) : X6_makesPair_wp σ (nI a) (nI b) Post := by
  unfold X6_makesPair_wp
  rw [e0, e1, nI_half (by omega)]
  unfold isP at hp
  refine ⟨fun c1 => ⟨fun c2 => ?_, fun c2 => ?_⟩, fun c1 => ?_⟩
  · have s1 : ¬ S = 1 := fun q => c1 (by rw [q]; rfl)
    have s2 : ¬ S = 2 := fun q => c2 (by rw [q]; rfl)
    rw [if_pos (show S = 0 by omega)] at hp
    refine pk_le b a (fun q => ?_) (fun q => ?_)
    · rw [decide_eq_false (by omega)] at hp
      exact hp
    · rw [decide_eq_true q] at hp
      exact hp
  · have s2 : S = 2 := (nI_eq (b := 2) (by omega) (by omega)).mp c2
    rw [if_neg (by omega), if_neg (by omega)] at hp
    refine pk_le (N / 2) a (fun q => ?_) (fun q => ?_)
    · rw [decide_eq_false (by omega), Bool.false_and] at hp
      exact hp
    · rw [decide_eq_true q, Bool.true_and] at hp
      refine pk_lt b (N / 2) (fun r => ?_) (fun r => ?_)
      · rw [decide_eq_false (by omega)] at hp
        exact hp
      · rw [decide_eq_true r] at hp
        exact hp
  · have s1 : S = 1 := (nI_eq (b := 1) (by omega) (by omega)).mp c1
    rw [if_neg (by omega), if_pos s1] at hp
    refine pk_eq a b (fun q => ?_) (fun q => ?_)
    · rw [decide_eq_false (by omega)] at hp
      exact hp
    · rw [decide_eq_true q] at hp
      exact hp
/-- which places mean the pair at p -/
theorem ori_eq {N S a b x y : Nat} (hN : N ≤ 12) (ha : a < N) (hb : b < N) (hx : x < N) (hy : y < N) (hab : isP N S a b = true) : (tld N S x y = true ∧ ori N S x y = 12 * a + b) ↔ ((x = a ∧ y = b) ∨ (S ≠ 1 ∧ x = b ∧ y = a)) := by
  constructor
  · rintro ⟨ht, ho⟩
    unfold ori at ho
    unfold tld at ht
    cases e : isP N S x y
    · rw [e, if_neg (by decide)] at ho
      rw [e, Bool.false_or, Bool.and_eq_true, decide_eq_true_eq] at ht
      right
      exact ⟨ht.1, by omega, by omega⟩
    · rw [e, if_pos rfl] at ho
      left
      omega
  · rintro (⟨rfl, rfl⟩ | ⟨hS, rfl, rfl⟩)
    · unfold tld ori
      rw [hab]
      exact ⟨rfl, rfl⟩
    · unfold tld ori
      rw [isP_asym hS hab, hab, decide_eq_true hS]
      exact ⟨rfl, rfl⟩
set_option maxHeartbeats 1000000 in
theorem lay_ok {σ : Sto} {N S : Nat} {Post : Sto → Prop} (h1 : 2 ≤ N) (h2 : N ≤ 12) (h4 : S ≤ 2) (hp : ∀ σ' : Sto, (∀ k, 11 ≤ k → σ'.1 k = σ.1 k) → σ'.2 = σ.2 → (∀ po hid tm, XN σ'.1 (gNew N S po hid tm) ∧ XA σ'.1 (gNew N S po hid tm) ∧ XG σ'.1 (gNew N S po hid tm)) → Post σ') : X6_lay_wp σ (nI N) (nI S) Post := by
  intro K62 K70 h62 h70
  unfold fill_wp
  -- what holds with p places behind
  let Inv : Nat → Sto → Prop := fun p τ => (∀ k, 11 ≤ k → τ.1 k = σ.1 k) ∧ τ.2 = σ.2 ∧ τ.1 1 0 = nI N ∧ τ.1 1 1 = nI S ∧ τ.1 1 2 = nI (cnt p (isPr N S)) ∧ τ.1 1 3 = 0 ∧ (∀ i, i < 132 → τ.1 4 i = 0) ∧ (∀ i, i < 12 → τ.1 8 i = 0) ∧ (∀ i, i < 12 → τ.1 9 i = 0) ∧ (∀ i, i < 12 → τ.1 10 i = 0) ∧ (∀ i, i < cnt p (isPr N S) → τ.1 2 i = nI (nth (isPr N S) 144 i / 12) ∧ τ.1 3 i = nI (nth (isPr N S) 144 i % 12)) ∧ (∀ x y, x < N → y < N → τ.1 7 (12 * x + y) = if tld N S x y = true ∧ ori N S x y < p then nI (cnt (ori N S x y) (isPr N S)) else -1)
  have rows : ∀ (j a : Nat), a + j = N → ∀ τ, Inv (12 * a) τ → K62 τ (nI a) := by
    intro j
    induction j with
    | zero =>
      intro a ha τ inv
      have ha : a = N := ha
      obtain ⟨i1, i2, i3, i4, i5, i6, i7, i8, i9, i10, i11, i12⟩ := inv
      apply h62
      unfold X6_lay_b62
      refine pk_le N a (fun _ => ?_) (fun q => by omega)
      have e144 : cnt 144 (isPr N S) = cnt (12 * a) (isPr N S) := cnt_same (by omega) (fun i q1 q2 => by
        cases e : isPr N S i
        · rfl
        · have := (isPr_iff.mp e).1
          omega)
      refine hp τ i1 i2 (fun po hid tm => ⟨⟨i3, h1, h2, i4, h4, ?_, ?_, ?_, ?_⟩, ⟨?_, ?_, ?_⟩, ?_⟩)
      · show τ.1 1 2 = nI (cnt 144 (isPr N S))
        rw [e144]
        exact i5
      · show τ.1 1 3 = nI 0
        rw [i6]
        exact nI_0.symm
      · show ∀ i, i < cnt 144 (isPr N S) → _
        rw [e144]
        exact i11
      · show ∀ x y, x < N → y < N → τ.1 7 (12 * x + y) = if tld N S x y then nI (cnt (ori N S x y) (isPr N S)) else -1
        intro x y hx hy
        rw [i12 x y hx hy]
        cases ht : tld N S x y
        · rw [if_neg (fun q => absurd q.1 (by decide)), if_neg (by decide)]
        · have ho := ori_spec h2 hx hy ht
          have hpr := isPr_iff.mp ho.2.1
          rw [if_pos ⟨rfl, by omega⟩, if_pos rfl]
      · show ∀ i, i < cnt 144 (isPr N S) → τ.1 4 i = nI (stc (fun _ => 0) hid _)
        intro i hi
        have := pr_le N S
        rw [i7 i (by omega)]
        exact nI_0.symm
      · intro k hk
        exact absurd hk (Nat.not_lt_zero k)
      · intro x hx
        have hx : x < 12 := hx
        rw [i9 x hx, i10 x hx]
        exact ⟨rep0.cong (fun y _ => rfl), rep0.cong (fun y _ => rfl)⟩
      · intro x hx
        have hx : x < 12 := hx
        rw [i8 x hx]
        exact ⟨nI_0.symm, show 0 < 4 by decide⟩
    | succ j ih =>
      intro a ha τ inv
      apply h62
      unfold X6_lay_b62
      refine pk_le N a (fun q => by omega) (fun _ => ?_)
      have cols : ∀ (j2 b : Nat), b + j2 = N → ∀ τ, Inv (12 * a + b) τ → K70 τ (nI a) (nI b) := by
        intro j2
        induction j2 with
        | zero =>
          intro b hb τ inv
          have hb : b = N := hb
          obtain ⟨i1, i2, i3, i4, i5, i6, i7, i8, i9, i10, i11, i12⟩ := inv
          have e12 : cnt (12 * (a + 1)) (isPr N S) = cnt (12 * a + b) (isPr N S) := cnt_same (by omega) (fun i q1 q2 => by
            cases e : isPr N S i
            · rfl
            · have := (isPr_iff.mp e).2.1
              omega)
          apply h70
          unfold X6_lay_b70
          refine pk_le N b (fun _ => ?_) (fun q => by omega)
          rw [nI_1]
          refine ih (a + 1) (by omega) τ ⟨i1, i2, i3, i4, by rw [e12]; exact i5, i6, i7, i8, i9, i10, by rw [e12]; exact i11, fun x y hx hy => ?_⟩
          rw [i12 x y hx hy]
          cases ht : tld N S x y
          · rw [if_neg (fun q => absurd q.1 (by decide)), if_neg (fun q => absurd q.1 (by decide))]
          · have ho := ori_spec h2 hx hy ht
            have hpr := isPr_iff.mp ho.2.1
            by_cases q : ori N S x y < 12 * a + b
            · rw [if_pos ⟨rfl, q⟩, if_pos ⟨rfl, by omega⟩]
            · rw [if_neg (fun r => q r.2), if_neg (fun r => by
                have := r.2
                omega)]
        | succ j2 ih2 =>
          intro b hb τ inv
          have inv0 := inv
          obtain ⟨i1, i2, i3, i4, i5, i6, i7, i8, i9, i10, i11, i12⟩ := inv
          have ea : (12 * a + b) / 12 = a := by omega
          have eb : (12 * a + b) % 12 = b := by omega
          apply h70
          unfold X6_lay_b70
          refine pk_le N b (fun q => by omega) (fun _ => ?_)
          rw [nI_1]
          refine makesPair_ok i3 h2 i4 h4 (by omega) (by omega) (b2i_fi _ (fun hb1 => ?_) (fun hb1 => ?_))
          · have hpr : isPr N S (12 * a + b) = true := isPr_iff.mpr (by rw [ea, eb]; exact ⟨by omega, by omega, hb1⟩)
            have hm : cnt (12 * a + b) (isPr N S) + 1 ≤ 132 := by
              have q1 := cnt_mono_n (isPr N S) (show 12 * a + b + 1 ≤ 144 by omega)
              rw [cnt_t hpr] at q1
              have := pr_le N S
              omega
            have hself := nth_cnt hpr 144 (by omega)
            unfold X6_addPair_wp
            rw [i5, i4, nI_clamp (by omega), ix, ix, nI_clamp (by omega), nI_clamp (by omega), nI_1]
            have v1 : vp_in (nI (cnt (12 * a + b) (isPr N S))) 132 := vp_in_nI (by omega) (by decide)
            -- the new state, whichever places were written
            have fin : ∀ υ : Sto, υ.2 = τ.2 → (∀ k, k ≠ 1 → k ≠ 2 → k ≠ 3 → k ≠ 7 → υ.1 k = τ.1 k) → υ.1 1 2 = nI (cnt (12 * a + b) (isPr N S) + 1) → (∀ j, j ≠ 2 → υ.1 1 j = τ.1 1 j) → (∀ i, υ.1 2 i = if i = cnt (12 * a + b) (isPr N S) then nI a else τ.1 2 i) → (∀ i, υ.1 3 i = if i = cnt (12 * a + b) (isPr N S) then nI b else τ.1 3 i) → (∀ q, υ.1 7 q = if q = 12 * a + b ∨ (S ≠ 1 ∧ q = 12 * b + a) then nI (cnt (12 * a + b) (isPr N S)) else τ.1 7 q) → K70 υ (nI a) (nI (b + 1)) := by
              intro υ u2 uo u12 u1 uf ut u7
              refine ih2 (b + 1) (by omega) υ ⟨fun k hk => by rw [uo k (by omega) (by omega) (by omega) (by omega)]; exact i1 k hk, u2.trans i2, by rw [u1 0 (by decide)]; exact i3, by rw [u1 1 (by decide)]; exact i4, by rw [u12, ← Nat.add_assoc, cnt_t hpr], by rw [u1 3 (by decide)]; exact i6, by rw [uo 4 (by decide) (by decide) (by decide) (by decide)]; exact i7, by rw [uo 8 (by decide) (by decide) (by decide) (by decide)]; exact i8, by rw [uo 9 (by decide) (by decide) (by decide) (by decide)]; exact i9, by rw [uo 10 (by decide) (by decide) (by decide) (by decide)]; exact i10, fun i hi => ?_, fun x y hx hy => ?_⟩
              · rw [← Nat.add_assoc, cnt_t hpr] at hi
                rw [uf i, ut i]
                by_cases q : i = cnt (12 * a + b) (isPr N S)
                · rw [if_pos q, if_pos q, q, hself, ea, eb]
                  exact ⟨rfl, rfl⟩
                · rw [if_neg q, if_neg q]
                  exact i11 i (by omega)
              · rw [u7]
                have oe := ori_eq h2 (show a < N by omega) (show b < N by omega) hx hy hb1
                by_cases q : (x = a ∧ y = b) ∨ (S ≠ 1 ∧ x = b ∧ y = a)
                · have q2 := oe.mpr q
                  rw [if_pos (by
                    rcases q with q | q
                    · left
                      omega
                    · right
                      refine ⟨q.1, ?_⟩
                      omega), if_pos ⟨q2.1, by omega⟩, q2.2]
                · rw [if_neg (fun r => q (by
                    rcases r with r | r
                    · left
                      omega
                    · right
                      refine ⟨r.1, ?_⟩
                      omega)), i12 x y hx hy]
                  cases ht : tld N S x y
                  · rw [if_neg (fun r => absurd r.1 (by decide)), if_neg (fun r => absurd r.1 (by decide))]
                  · have hne : ori N S x y ≠ 12 * a + b := fun r => q (oe.mp ⟨ht, r⟩)
                    by_cases z : ori N S x y < 12 * a + b
                    · rw [if_pos ⟨rfl, z⟩, if_pos ⟨rfl, by omega⟩]
                    · rw [if_neg (fun r => z r.2), if_neg (fun r => by
                        have := r.2
                        omega)]
            refine ⟨v1, v1, vp_in_nI (by omega) (by decide), ?_⟩
            refine pk_eq S 1 (fun s1 => ?_) (fun s1 => ⟨vp_in_nI (by omega) (by decide), ?_⟩)
            · refine fin _ rfl (fun k q1 q2 q3 q7 => ?_) ?_ (fun j hj => ?_) (fun i => ?_) (fun i => ?_) (fun q => ?_)
              · rw [sI_o _ _ _ q1, sI_o _ _ _ q7, sI_o _ _ _ q3, sI_o _ _ _ q2]
              · rw [sI_e]
              · rw [sI_n _ _ _ hj, sI_o _ _ _ (by decide), sI_o _ _ _ (by decide), sI_o _ _ _ (by decide)]
              · rw [sI_o _ _ _ (by decide), sI_o _ _ _ (by decide), sI_o _ _ _ (by decide), sI_s]
              · rw [sI_o _ _ _ (by decide), sI_o _ _ _ (by decide), sI_s, sI_o _ _ _ (by decide)]
              · rw [sI_o _ _ _ (by decide), sI_s, sI_o _ _ _ (by decide), sI_o _ _ _ (by decide)]
                by_cases z : q = 12 * a + b
                · rw [if_pos z, if_pos (Or.inl z)]
                · rw [if_neg z, if_neg (fun r => r.elim z (fun r => r.1 s1))]
            · refine fin _ rfl (fun k q1 q2 q3 q7 => ?_) ?_ (fun j hj => ?_) (fun i => ?_) (fun i => ?_) (fun q => ?_)
              · rw [sI_o _ _ _ q1, sI_o _ _ _ q7, sI_o _ _ _ q7, sI_o _ _ _ q3, sI_o _ _ _ q2]
              · rw [sI_e]
              · rw [sI_n _ _ _ hj, sI_o _ _ _ (by decide), sI_o _ _ _ (by decide), sI_o _ _ _ (by decide), sI_o _ _ _ (by decide)]
              · rw [sI_o _ _ _ (by decide), sI_o _ _ _ (by decide), sI_o _ _ _ (by decide), sI_o _ _ _ (by decide), sI_s]
              · rw [sI_o _ _ _ (by decide), sI_o _ _ _ (by decide), sI_o _ _ _ (by decide), sI_s, sI_o _ _ _ (by decide)]
              · rw [sI_o _ _ _ (by decide), sI_s, sI_s, sI_o _ _ _ (by decide), sI_o _ _ _ (by decide)]
                by_cases z : q = 12 * b + a
                · rw [if_pos z, if_pos (Or.inr ⟨s1, z⟩)]
                · rw [if_neg z]
                  by_cases z2 : q = 12 * a + b
                  · rw [if_pos z2, if_pos (Or.inl z2)]
                  · rw [if_neg z2, if_neg (fun r => r.elim z2 (fun r => z r.2))]
          · have hpr : isPr N S (12 * a + b) = false := by
              cases e : isPr N S (12 * a + b)
              · rfl
              · have := (isPr_iff.mp e).2.2
                rw [ea, eb, hb1] at this
                cases this
            refine ih2 (b + 1) (by omega) τ ⟨i1, i2, i3, i4, by rw [← Nat.add_assoc, cnt_f hpr]; exact i5, i6, i7, i8, i9, i10, by rw [← Nat.add_assoc, cnt_f hpr]; exact i11, fun x y hx hy => ?_⟩
            rw [i12 x y hx hy]
            cases ht : tld N S x y
            · rw [if_neg (fun r => absurd r.1 (by decide)), if_neg (fun r => absurd r.1 (by decide))]
            · have ho := ori_spec h2 hx hy ht
              have hne : ori N S x y ≠ 12 * a + b := fun r => by
                rw [r, hpr] at ho
                exact absurd ho.2.1 (by decide)
              by_cases z : ori N S x y < 12 * a + b
              · rw [if_pos ⟨rfl, z⟩, if_pos ⟨rfl, by omega⟩]
              · rw [if_neg (fun r => z r.2), if_neg (fun r => by
                  have := r.2
                  omega)]
      exact cols N 0 (by omega) τ inv
  refine rows N 0 (by omega) _ ⟨fun k hk => ?_, rfl, ?_, ?_, ?_, ?_, fun i hi => ?_, fun i hi => ?_, fun i hi => ?_, fun i hi => ?_, fun i hi => ?_, fun x y hx hy => ?_⟩
  · rw [fillS_o _ _ _ (by omega), fillS_o _ _ _ (by omega), fillS_o _ _ _ (by omega), fillS_o _ _ _ (by omega), fillS_o _ _ _ (by omega), sI_o _ _ _ (by omega), sI_o _ _ _ (by omega), sI_o _ _ _ (by omega), sI_o _ _ _ (by omega)]
  · rw [fillS_o _ _ _ (by decide), fillS_o _ _ _ (by decide), fillS_o _ _ _ (by decide), fillS_o _ _ _ (by decide), fillS_o _ _ _ (by decide), sI_n _ _ _ (by decide), sI_n _ _ _ (by decide), sI_n _ _ _ (by decide), sI_e]
  · rw [fillS_o _ _ _ (by decide), fillS_o _ _ _ (by decide), fillS_o _ _ _ (by decide), fillS_o _ _ _ (by decide), fillS_o _ _ _ (by decide), sI_n _ _ _ (by decide), sI_n _ _ _ (by decide), sI_e]
  · rw [fillS_o _ _ _ (by decide), fillS_o _ _ _ (by decide), fillS_o _ _ _ (by decide), fillS_o _ _ _ (by decide), fillS_o _ _ _ (by decide), sI_n _ _ _ (by decide), sI_e]
    exact nI_0.symm
  · rw [fillS_o _ _ _ (by decide), fillS_o _ _ _ (by decide), fillS_o _ _ _ (by decide), fillS_o _ _ _ (by decide), fillS_o _ _ _ (by decide), sI_e]
  · rw [fillS_o _ _ _ (by decide), fillS_o _ _ _ (by decide), fillS_o _ _ _ (by decide), fillS_o _ _ _ (by decide), fillS_s, if_pos hi]
  · rw [fillS_o _ _ _ (by decide), fillS_o _ _ _ (by decide), fillS_s, if_pos hi]
  · rw [fillS_o _ _ _ (by decide), fillS_s, if_pos hi]
  · rw [fillS_s, if_pos hi]
  · exact absurd hi (by simp [cnt])
  · rw [fillS_o _ _ _ (by decide), fillS_o _ _ _ (by decide), fillS_o _ _ _ (by decide), fillS_s, if_pos (by omega), if_neg (fun r => by
      have := r.2
      omega)]
theorem startAnew_ok {σ : Sto} {N S : Nat} {po : Nat → Nat} {hid : Nat → Bool} {tm : Nat → Int32} {Post : Sto → Prop} (h1 : 2 ≤ N) (h2 : N ≤ 12) (h4 : S ≤ 2) (hp : ∀ σ' : Sto, XI σ' (gNew N S po hid tm) → Post σ') : X7_startAnew_wp σ (nI N) (nI S) Post := by
  unfold X7_startAnew_wp
  refine lay_ok h1 h2 h4 (fun τ k1 k2 hx => ?_)
  obtain ⟨x1, x2, x3⟩ := hx po hid tm
  unfold X4_setPaths_wp X5_reset_wp fill_wp
  refine ⟨vp_in_nI (n := 0) (by omega) (by decide), ?_⟩
  rw [int0, lz_0, lz_1]
  refine xshow_ok (a := 0) (b := 1) (by omega) (by omega) (by omega) (by omega) ?_
  rw [show Int.natAbs 0 = 0 from rfl, Nat.gcd_zero_left, show (0 : Int) / ((1 : Nat) : Int) = 0 from rfl, show (1 / 1 : Nat) = 1 from rfl]
  generalize hυ : sI (fillS (sI (sI (sI τ 11 1 1) 11 2 1) 11 3 2) 13 11 0) 13 0 1 = υ
  have u : ∀ k, k ≤ 10 → υ.1 k = τ.1 k := fun k hk => by
    rw [← hυ, sI_o _ _ _ (by omega), fillS_o _ _ _ (by omega), sI_o _ _ _ (by omega), sI_o _ _ _ (by omega), sI_o _ _ _ (by omega)]
  refine hp _ ⟨?_, ?_, ?_, ⟨?_, show (1 : Nat) ≤ 9 by decide, ?_, show (1 : Nat) ≤ 9 by decide, ?_, Or.inr rfl⟩, ?_, ?_, ?_, GI.none N S po⟩
  · show XN υ.1 _
    unfold XN at x1 ⊢
    rw [u 1 (by decide), u 2 (by decide), u 3 (by decide), u 7 (by decide)]
    exact x1
  · show XA υ.1 _
    unfold XA at x2 ⊢
    rw [u 4 (by decide), u 5 (by decide), u 6 (by decide), u 9 (by decide), u 10 (by decide)]
    exact x2
  · show XG υ.1 _
    unfold XG at x3 ⊢
    rw [u 8 (by decide)]
    exact x3
  · show υ.1 11 1 = nI 1
    rw [← hυ, sI_o _ _ _ (by decide), fillS_o _ _ _ (by decide), sI_n _ _ _ (by decide), sI_n _ _ _ (by decide), sI_e]
    rfl
  · show υ.1 11 2 = nI 1
    rw [← hυ, sI_o _ _ _ (by decide), fillS_o _ _ _ (by decide), sI_n _ _ _ (by decide), sI_e]
    rfl
  · show υ.1 11 3 = nI 2
    rw [← hυ, sI_o _ _ _ (by decide), fillS_o _ _ _ (by decide), sI_e]
    rfl
  · show XW υ.1 (fun k => if k = 0 then 1 else 0)
    intro k hk
    rw [← hυ]
    by_cases q : k = 0
    · subst q
      rw [sI_e]
      exact ⟨rfl, by decide, by decide⟩
    · rw [sI_n _ _ _ q, fillS_s, if_pos hk]
      show _ = iz (if k = 0 then 1 else 0) ∧ -99 ≤ (if k = 0 then (1 : Int) else 0) ∧ (if k = 0 then (1 : Int) else 0) ≤ 99
      rw [if_neg q]
      exact ⟨rfl, by decide, by decide⟩
  · rw [sJ_n _ _ _ (by decide), sJ_e]
    rfl
  · rw [sJ_e]
    rfl
