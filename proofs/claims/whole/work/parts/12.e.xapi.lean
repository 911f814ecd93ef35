/-! the class: graph, arc, group, hide, since, split, count, paths, weigh, weight, top, bottom, score -/
def wi (x a b : Int32) : Bool := decide (¬ x < a ∧ ¬ b < x)
theorem wi_ok {σ : Sto} {x a b : Int32} {Post : Int32 → Sto → Prop} (hp : Post (b2i (wi x a b)) σ) : X7_isWithin_wp σ x a b Post := by
  unfold X7_isWithin_wp
  unfold wi at hp
  refine ⟨fun c => ?_, fun c1 => ⟨fun c => ?_, fun c2 => ?_⟩⟩
  · rw [decide_eq_false (fun z => z.1 c)] at hp
    exact hp
  · rw [decide_eq_false (fun z => z.2 c)] at hp
    exact hp
  · rw [decide_eq_true ⟨c1, c2⟩] at hp
    exact hp
theorem wi_and {P Q : Prop} [Decidable P] [Decidable Q] (h : P ↔ Q) : decide P = decide Q := by
  by_cases p : P
  · rw [decide_eq_true p, decide_eq_true (h.mp p)]
  · rw [decide_eq_false p, decide_eq_false (fun q => p (h.mpr q))]
theorem nlt {a b : Int32} : ¬ a < b ↔ b ≤ a := Int32.not_lt
theorem okGraph_wi (n s : Int32) : okGraph n s = (wi n 2 12 && wi s 0 2) := by
  unfold okGraph wi
  rw [← Bool.decide_and]
  exact wi_and ⟨fun ⟨a, b, c, d⟩ => ⟨⟨a, b⟩, c, nlt.mpr d⟩, fun ⟨⟨a, b⟩, c, d⟩ => ⟨a, b, c, nlt.mp d⟩⟩
theorem okTime_wi (t : Int32) : okTime t = wi t 0 9999 := wi_and ⟨fun ⟨a, b⟩ => ⟨a, nlt.mpr b⟩, fun ⟨a, b⟩ => ⟨a, nlt.mp b⟩⟩
theorem okGrp_wi (t : Int32) : okGrp t = wi t 0 3 := wi_and ⟨fun ⟨a, b⟩ => ⟨a, nlt.mpr b⟩, fun ⟨a, b⟩ => ⟨a, nlt.mp b⟩⟩
theorem okW_wi (t : Int32) : okW t = wi t (-99) 99 := wi_and ⟨fun ⟨a, b⟩ => ⟨a, nlt.mpr b⟩, fun ⟨a, b⟩ => ⟨a, nlt.mp b⟩⟩
theorem okPaths_wi (v w s : Int32) : okPaths v w s = (wi v 0 9 && (wi w 0 9 && wi s 1 2)) := by
  unfold okPaths wi
  rw [← Bool.decide_and, ← Bool.decide_and]
  exact wi_and ⟨fun ⟨a, b, c, d, e, f⟩ => ⟨⟨a, b⟩, ⟨c, d⟩, e, nlt.mpr f⟩, fun ⟨⟨a, b⟩, ⟨c, d⟩, e, f⟩ => ⟨a, b, c, d, e, nlt.mp f⟩⟩
theorem okSplit_wi (q r : Int32) : okSplit q r = (wi q 1 20 && wi r 0 (q - 1)) := by
  unfold okSplit wi
  rw [← Bool.decide_and]
  have key : ¬ q < 1 → ¬ 20 < q → ¬ r < 0 → (r < q ↔ ¬ q - 1 < r) := by
    intro h1 h2 h3
    have q0 : ¬ q < 0 := fun z => h1 (by
      rw [Int32.lt_iff_toInt_lt] at z ⊢
      have : (1 : Int32).toInt = 1 := rfl
      have : (0 : Int32).toInt = 0 := rfl
      omega)
    obtain ⟨j, hj, ej⟩ := nI_of q0
    obtain ⟨m, hm, em⟩ := nI_of h3
    subst ej
    subst em
    have j1 : ¬ j < 1 := fun z => h1 ((nI_ltI (b := 1) hj (by omega)).mpr z)
    rw [show (1 : Int32) = nI 1 from rfl, pk_sub (by omega), nI_ltI hm hj, nI_ltI (by omega) hm]
    omega
  exact wi_and ⟨fun ⟨a, b, c, d⟩ => ⟨⟨a, b⟩, c, (key a b c).mp d⟩, fun ⟨⟨a, b⟩, c, d⟩ => ⟨a, b, c, (key a b c).mpr d⟩⟩
theorem xisMeas_ok {σ : Sto} {k : Int32} {Post : Int32 → Sto → Prop} (hp : Post (b2i (okMeas k)) σ) : X7_isMeasure_wp σ k Post := by
  unfold X7_isMeasure_wp
  refine wi_ok ⟨?_, hp⟩
  cases wi k 0 10 <;> rfl
section XE
variable {σ : Sto} {g : GS} {Post : Int32 → Sto → Prop}
theorem xGraph_ok {n s : Int32} (h : XI σ g) (hp : ∀ σ' : Sto, XI σ' (gGraph g n s) → Post (rGraph n s) σ') : X7_graph_wp σ n s Post := by
  have bad : okGraph n s = false → Post (-2 : Int32) σ := fun z => by
    unfold gGraph rGraph at hp
    rw [z] at hp
    exact hp σ h
  unfold X7_graph_wp
  refine wi_ok (b2i_fi _ (fun h1 => wi_ok (b2i_if _ (fun h2 => ?_) (fun h2 => bad (by rw [okGraph_wi, h1, h2]; rfl)))) (fun h1 => bad (by rw [okGraph_wi, h1]; rfl)))
  have hok : okGraph n s = true := by rw [okGraph_wi, h1, h2]; rfl
  obtain ⟨e1, e2, e3, e4, e5⟩ := okGraph_spec hok
  unfold gGraph rGraph at hp
  rw [hok, if_pos rfl, if_pos rfl] at hp
  generalize nn n = N at *
  generalize nn s = S at *
  subst e1
  subst e4
  refine startAnew_ok (po := gpo g) (hid := ghid g) (tm := gtm g) e2 e3 e5 (fun τ hτ => ?_)
  have e : τ.1 1 2 = nI (cnt 144 (isPr N S)) := hτ.1.2.2.2.2.2.1
  rw [e]
  exact hp τ hτ
theorem XI.told (h : XI σ g) {a b : Int32} (ht : told (gN g) (gS g) a b = true) : ∃ p, p = ori (gN g) (gS g) (nn a) (nn b) ∧ p < 144 ∧ isPr (gN g) (gS g) p = true ∧ gar g (pAt a b) = gar g p ∧ ixp g p < pT g ∧ prI g (ixp g p) = p ∧ ixp g p < 132 ∧ lead (gar g) (ghid g) (nn a) (nn b) = lead (gar g) (ghid g) (p / 12) (p % 12) := by
  have hN := h.1.2.2.1
  obtain ⟨x, y, hx, hy, ea, eb, hxy, na, nb⟩ := told_spec hN ht
  obtain ⟨o1, o2, o3, o4, o5⟩ := ori_spec hN hx hy hxy
  have hGI := h.2.2.2.2.2.2.2
  have i := ixp_spec o1 o2
  have l := pT_le g
  have ga := hGI.at hN hx hy hxy
  rw [na, nb]
  refine ⟨_, rfl, o1, o2, ?_, i.1, i.2, by omega, ?_⟩
  · unfold pAt
    rw [na, nb]
    exact ga
  · unfold lead
    rw [Nat.div_add_mod, ga]
theorem XI.arc (h : XI σ g) {p : Nat} (hp : p < 144) (hpr : isPr (gN g) (gS g) p = true) (h0 : gar g p ≠ 0) : gar g p - 1 < gc g ∧ gpo g (gar g p - 1) = p := by
  have hGI := h.2.2.2.2.2.2.2
  obtain ⟨b1, b2⟩ := hGI.2 p hp (by omega)
  have hk : gar g p - 1 < gc g := by omega
  refine ⟨hk, ?_⟩
  rcases b2 with b2 | ⟨hS, b2⟩
  · exact b2.symm
  · have hK := hGI.1 _ hk
    rw [b2, isPr_swp hK.1 hS hK.2.1] at hpr
    cases hpr
set_option maxHeartbeats 1000000 in
theorem addArc_ok {p : Nat} {t : Int32} {Post : Sto → Prop} (h : XI σ g) (hp1 : p < 144) (hpr : isPr (gN g) (gS g) p = true) (h0 : gar g p = 0) (hp : ∀ σ' : Sto, XI σ' (gmk (gN g) (gS g) (gc g + 1) (arA (gS g) (gc g) p (gar g)) (upN (gpo g) (gc g) p) (upN (ghid g) (gc g) false) (upN (gtm g) (gc g) t) (ggrp g) (gwt g) (gv g) (gw g) (gs g) (gbt g) (gbb g)) → Post σ') : X6_addArc_wp σ (nI (ixp g p)) t Post := by
  obtain ⟨a1, a2, a3, a4, a5, a6, a7, hGI⟩ := id h
  have GIn := hGI.add hp1 hpr h0 (fun q => by rw [hGI.sym q hp1]; exact h0)
  have hc := GIn.c_le
  have hl := pT_le g
  have hx := ixp_spec hp1 hpr
  have hdm := Nat.div_add_mod p 12
  have hprI := isPr_iff.mp hpr
  have hN := a1.2.2.1
  have ft := h.fromto hx.1
  rw [hx.2] at ft
  unfold X6_addArc_wp
  rw [a1.2.2.2.2.2.2.1, nI_clamp (by omega), nI_clamp (by omega), nI_1]
  refine ⟨vp_in_nI (by omega) (by decide), vp_in_nI (by omega) (by decide), ?_⟩
  generalize hτ : sI (sI (sI σ 6 (gc g) (nI (ixp g p))) 1 3 (nI (gc g + 1))) 5 (ixp g p) t = τ
  have t1 : ∀ j, j ≠ 3 → τ.1 1 j = σ.1 1 j := fun j hj => by rw [← hτ, sI_o _ _ _ (by decide), sI_n _ _ _ hj, sI_o _ _ _ (by decide)]
  have t13 : τ.1 1 3 = nI (gc g + 1) := by rw [← hτ, sI_o _ _ _ (by decide), sI_e]
  have t5 : ∀ j, τ.1 5 j = if j = ixp g p then t else σ.1 5 j := fun j => by rw [← hτ, sI_s, sI_o _ _ _ (by decide), sI_o _ _ _ (by decide)]
  have t6 : ∀ j, τ.1 6 j = if j = gc g then nI (ixp g p) else σ.1 6 j := fun j => by rw [← hτ, sI_o _ _ _ (by decide), sI_o _ _ _ (by decide), sI_s]
  have to : ∀ k, k ≠ 1 → k ≠ 5 → k ≠ 6 → τ.1 k = σ.1 k := fun k q1 q5 q6 => by rw [← hτ, sI_o _ _ _ q5, sI_o _ _ _ q1, sI_o _ _ _ q6]
  have tj : τ.2 = σ.2 := by rw [← hτ]; rfl
  have hF : RepM τ.1 (lead (gar g) (ghid g)) := fun x hx9 => by
    rw [to 9 (by decide) (by decide) (by decide), to 10 (by decide) (by decide) (by decide)]
    exact a2.2.2 x hx9
  refine setHidden_lo (is := false) (i := ixp g p) (a := p / 12) (b := p % 12) (S := gS g) hF (by omega) (by rw [to 2 (by decide) (by decide) (by decide)]; exact ft.1) (by rw [to 3 (by decide) (by decide) (by decide)]; exact ft.2) (by rw [t1 1 (by decide)]; exact a1.2.2.2.1) a1.2.2.2.2.1 (by omega) (by omega) (fun υ e1 e2 e4 eF => ?_)
  have u : ∀ k, k ≠ 1 → k ≠ 4 → k ≠ 5 → k ≠ 6 → k ≠ 9 → k ≠ 10 → υ.1 k = σ.1 k := fun k q1 q4 q5 q6 q9 q10 => (e1 k q4 q9 q10).trans (to k q1 q5 q6)
  -- what the new arc is at
  have arp : arA (gS g) (gc g) p (gar g) p = gc g + 1 := by
    unfold arA
    rw [if_pos rfl]
  have hne : ∀ k, k < gc g → gpo g k ≠ p := fun k hk q => by
    have := (hGI.1 k hk).2.2.1
    rw [q] at this
    omega
  refine hp υ ⟨⟨?_, a1.2.1, hN, ?_, a1.2.2.2.2.1, ?_, ?_, ?_, ?_⟩, ⟨?_, ?_, ?_⟩, ?_, ?_, ?_, ?_, ?_, GIn⟩
  · rw [e1 1 (by decide) (by decide) (by decide), t1 0 (by decide)]
    exact a1.1
  · rw [e1 1 (by decide) (by decide) (by decide), t1 1 (by decide)]
    exact a1.2.2.2.1
  · rw [e1 1 (by decide) (by decide) (by decide), t1 2 (by decide)]
    exact a1.2.2.2.2.2.1
  · rw [e1 1 (by decide) (by decide) (by decide)]
    exact t13
  · rw [u 2 (by decide) (by decide) (by decide) (by decide) (by decide) (by decide), u 3 (by decide) (by decide) (by decide) (by decide) (by decide) (by decide)]
    exact a1.2.2.2.2.2.2.2.1
  · rw [u 7 (by decide) (by decide) (by decide) (by decide) (by decide) (by decide)]
    exact a1.2.2.2.2.2.2.2.2
  · show ∀ i, i < pT g → υ.1 4 i = nI (stc (arA (gS g) (gc g) p (gar g)) (upN (ghid g) (gc g) false) (prI g i))
    intro i hi
    have hq := prI_spec hi
    rw [e4 i, to 4 (by decide) (by decide) (by decide)]
    by_cases q : i = ixp g p
    · rw [if_pos q, q, hx.2]
      unfold stc
      rw [arp, if_neg (show ¬ gc g + 1 = 0 by omega), Nat.add_sub_cancel, upN_e]
    · rw [if_neg q, h.state hi]
      have hne2 : prI g i ≠ p := fun r => q (by rw [← hq.2.2, r])
      have ea : arA (gS g) (gc g) p (gar g) (prI g i) = gar g (prI g i) := by
        unfold arA
        rw [if_neg hne2, if_neg]
        rintro ⟨hS, r⟩
        have := hq.1
        rw [r, isPr_swp hp1 hS hpr] at this
        cases this
      unfold stc
      rw [ea]
      by_cases z : gar g (prI g i) = 0
      · rw [if_pos z, if_pos z]
      · have := (hGI.2 (prI g i) hq.2.1 (by omega)).1
        rw [if_neg z, if_neg z, upN_n _ _ (by omega)]
  · show ∀ k, k < gc g + 1 → υ.1 6 k = nI (ixp g (upN (gpo g) (gc g) p k)) ∧ υ.1 5 (ixp g (upN (gpo g) (gc g) p k)) = upN (gtm g) (gc g) t k
    intro k hk
    rw [e1 6 (by decide) (by decide) (by decide), e1 5 (by decide) (by decide) (by decide), t6, t5]
    by_cases q : k = gc g
    · rw [q, upN_e, upN_e, if_pos rfl, if_pos rfl]
      exact ⟨rfl, rfl⟩
    · have hk2 : k < gc g := by omega
      have hy := ixp_spec (hGI.1 k hk2).1 (hGI.1 k hk2).2.1
      rw [upN_n _ _ q, upN_n _ _ q, if_neg q, if_neg (fun r => hne k hk2 (by rw [← hy.2, r, hx.2]))]
      exact a2.2.1 k hk2
  · intro x hx9
    have key : ∀ x y, x < 12 → y < 12 → setF (gS g) (p / 12) (p % 12) (!false) (lead (gar g) (ghid g)) x y = lead (arA (gS g) (gc g) p (gar g)) (upN (ghid g) (gc g) false) x y := by
      intro x y hx9 hy9
      unfold setF
      by_cases q : (x = p / 12 ∧ y = p % 12) ∨ (gS g ≠ 1 ∧ x = p % 12 ∧ y = p / 12)
      · rw [if_pos q]
        have har : arA (gS g) (gc g) p (gar g) (12 * x + y) = gc g + 1 := by
          rcases q with q | q
          · rw [q.1, q.2, hdm]
            exact arp
          · have e : 12 * x + y = swp p := by
              unfold swp
              rw [q.2.1, q.2.2]
            rw [e]
            unfold arA
            by_cases z : swp p = p
            · rw [if_pos z]
            · rw [if_neg z, if_pos ⟨q.1, rfl⟩]
        unfold lead
        rw [har, Nat.add_sub_cancel, upN_e]
        simp
      · rw [if_neg q]
        have har : arA (gS g) (gc g) p (gar g) (12 * x + y) = gar g (12 * x + y) := by
          unfold arA
          rw [if_neg (fun r => q (Or.inl (by omega))), if_neg]
          rintro ⟨hS, r⟩
          apply q
          right
          unfold swp at r
          refine ⟨hS, ?_, ?_⟩ <;> omega
        unfold lead
        rw [har]
        by_cases z : gar g (12 * x + y) = 0
        · rw [z]
          rfl
        · have := (hGI.2 (12 * x + y) (by omega) (by omega)).1
          rw [upN_n _ _ (by omega)]
    exact ⟨(eF x hx9).1.cong (fun y hy => key x y hx9 hy), (eF x hx9).2.cong (fun y hy => key y x hy hx9)⟩
  · unfold XG at a3 ⊢
    rw [u 8 (by decide) (by decide) (by decide) (by decide) (by decide) (by decide)]
    exact a3
  · unfold XP at a4 ⊢
    rw [u 11 (by decide) (by decide) (by decide) (by decide) (by decide) (by decide)]
    exact a4
  · unfold XW at a5 ⊢
    rw [u 13 (by decide) (by decide) (by decide) (by decide) (by decide) (by decide)]
    exact a5
  · rw [e2, tj]; exact a6
  · rw [e2, tj]; exact a7
theorem xArc_ok {a b t : Int32} (h : XI σ g) (hp : ∀ σ' : Sto, XI σ' (gArc g a b t) → Post (rArc g a b t) σ') : X7_arc_wp σ a b t Post := by
  have same : ¬ (told (gN g) (gS g) a b = true ∧ okTime t = true ∧ gar g (pAt a b) = 0) → Post (rArc g a b t) σ := fun q => hp σ (by unfold gArc; rw [if_neg q]; exact h)
  unfold X7_arc_wp
  refine pairFor_ok h ?_
  cases ht : told (gN g) (gS g) a b
  · rw [pF_f ht]
    have := same (fun z => by rw [ht] at z; exact absurd z.1 (by decide))
    unfold rArc at this
    rw [ht, if_neg (by decide)] at this
    exact ⟨fun q => absurd rfl q, fun _ => this⟩
  · rw [pF_t ht]
    obtain ⟨p, ep, p1, p2, p3, p4, p5, p6, p7⟩ := h.told ht
    rw [← ep]
    refine ⟨fun _ => wi_ok (b2i_if _ (fun hT => ?_) (fun hT => ?_)), fun q => absurd q (nI_nm1 (by omega))⟩
    · rw [← okTime_wi] at hT
      rw [nI_clamp (by omega), h.state p4, p5]
      refine ⟨vp_in_nI p6 (by decide), fun c => ?_, fun c => ?_⟩
      · have c0 : gar g p = 0 := (stc0 _ _ _).mp ((nI_eq (b := 0) (by have := stc_le (gar g) (ghid g) p; omega) (by omega)).mp c)
        have cond : told (gN g) (gS g) a b = true ∧ okTime t = true ∧ gar g (pAt a b) = 0 := ⟨ht, hT, by rw [p3]; exact c0⟩
        unfold gArc rArc at hp
        rw [if_pos cond, cond.1, cond.2.1, cond.2.2, if_pos rfl, if_pos rfl, if_pos rfl, ← ep] at hp
        refine addArc_ok h p1 p2 c0 (fun τ hτ => ?_)
        have e : τ.1 1 3 = nI (gc g + 1) := hτ.1.2.2.2.2.2.2.1
        rw [e]
        exact hp τ hτ
      · have c0 : ¬ gar g p = 0 := fun q => c (by rw [(stc0 _ _ _).mpr q]; rfl)
        have := same (fun z => c0 (by rw [← p3]; exact z.2.2))
        unfold rArc at this
        rw [ht, hT, p3, if_pos rfl, if_pos rfl, if_neg c0] at this
        exact this
    · rw [← okTime_wi] at hT
      have := same (fun z => by rw [hT] at z; exact absurd z.2.1 (by decide))
      unfold rArc at this
      rw [ht, hT, if_pos rfl, if_neg (by decide)] at this
      exact this
theorem xGroup_ok {a k : Int32} (h : XI σ g) (hp : ∀ σ' : Sto, XI σ' (gGroup g a k) → Post (rGroup g a k) σ') : X7_group_wp σ a k Post := by
  have same : ¬ (nodeB (gN g) a = true ∧ okGrp k = true) → Post (rGroup g a k) σ := fun q => hp σ (by unfold gGroup; rw [if_neg q]; exact h)
  have hN := h.1.2.2.1
  unfold X7_group_wp
  refine xisNode_ok h (b2i_if _ (fun ha => wi_ok (b2i_if _ (fun hk => ?_) (fun hk => ?_))) (fun ha => ?_))
  · rw [← okGrp_wi] at hk
    unfold gGroup rGroup at hp
    rw [if_pos ⟨ha, hk⟩, ha, hk, if_pos rfl, if_pos rfl] at hp
    obtain ⟨e1, l1⟩ := nodeB_spec hN ha
    obtain ⟨e2, l2⟩ := okGrp_spec hk
    generalize nn a = x at *
    generalize nn k = y at *
    rw [e1, nI_clamp (by omega), (h.2.2.1 x (by omega)).1, e2]
    have v : vp_in (nI x) 12 := vp_in_nI (by omega) (by decide)
    refine ⟨v, v, ?_⟩
    obtain ⟨a1, a2, a3, a4, a5, a6, a7, a8⟩ := h
    refine hp _ ⟨?_, ?_, ?_, ?_, ?_, a6, a7, a8⟩
    · unfold XN at a1 ⊢
      rw [sI_o _ _ _ (by decide), sI_o _ _ _ (by decide), sI_o _ _ _ (by decide), sI_o _ _ _ (by decide)]
      exact a1
    · unfold XA at a2 ⊢
      rw [sI_o _ _ _ (by decide), sI_o _ _ _ (by decide), sI_o _ _ _ (by decide), sI_o _ _ _ (by decide), sI_o _ _ _ (by decide)]
      exact a2
    · intro z hz
      show (sI σ 8 x (nI y)).1 8 z = nI (upN (ggrp g) x y z) ∧ upN (ggrp g) x y z < 4
      by_cases q : z = x
      · rw [q, sI_e, upN_e]
        exact ⟨rfl, l2⟩
      · rw [sI_n _ _ _ q, upN_n _ _ q]
        exact a3 z hz
    · unfold XP at a4 ⊢
      rw [sI_o _ _ _ (by decide)]
      exact a4
    · unfold XW at a5 ⊢
      rw [sI_o _ _ _ (by decide)]
      exact a5
  · rw [← okGrp_wi] at hk
    have := same (fun z => by rw [hk] at z; exact absurd z.2 (by decide))
    unfold rGroup at this
    rw [ha, hk, if_pos rfl, if_neg (by decide)] at this
    exact this
  · have := same (fun z => by rw [ha] at z; exact absurd z.1 (by decide))
    unfold rGroup at this
    rw [ha, if_neg (by decide)] at this
    exact this
theorem xHide_ok {a b : Int32} {is : Bool} (h : XI σ g) (hp : ∀ σ' : Sto, XI σ' (gHide g a b is) → Post (rHide g a b) σ') : X7_hide_wp σ a b (b2i is) Post := by
  unfold X7_hide_wp
  refine pairFor_ok h ?_
  unfold gHide rHide at hp
  cases ht : told (gN g) (gS g) a b
  · rw [pF_f ht]
    have no : ¬ (told (gN g) (gS g) a b = true ∧ 0 < gar g (pAt a b)) := fun q => by
      rw [ht] at q
      exact absurd q.1 (by decide)
    rw [if_neg no, if_neg no] at hp
    exact ⟨fun _ => hp σ h, fun q => absurd rfl q⟩
  · rw [pF_t ht]
    obtain ⟨p, ep, p1, p2, p3, p4, p5, p6, p7⟩ := h.told ht
    rw [← ep, nI_clamp (by omega), h.state p4, p5]
    rw [p3] at hp
    have v : vp_in (nI (ixp g p)) 132 := vp_in_nI p6 (by decide)
    have sl := stc_le (gar g) (ghid g) p
    refine ⟨fun q => absurd q (nI_nm1 (by omega)), fun _ => ⟨v, fun c => ?_, fun c => ?_⟩⟩
    · have c0 : ¬ gar g p = 0 := fun q => c (by rw [(stc0 _ _ _).mpr q]; rfl)
      have yes : told (gN g) (gS g) a b = true ∧ 0 < gar g p := ⟨ht, by omega⟩
      rw [if_pos yes, if_pos yes] at hp
      obtain ⟨k1, k2⟩ := h.arc p1 p2 c0
      have sh : ∀ Q : Sto → Prop, (∀ σ' : Sto, XI σ' (gHid g (upN (ghid g) (gar g p - 1) is)) → Q σ') → X6_setHidden_wp σ (nI (ixp g p)) (b2i is) Q := fun Q hQ => by
        have t := setHidden_ok (is := is) (Post := Q) h k1 (fun τ q _ => hQ τ q)
        rw [k2] at t
        exact t
      refine ⟨v, fun c2 => sh _ (fun τ hτ => ?_), fun c2 => sh _ (fun τ hτ => ?_)⟩
      · have := hp τ hτ
        have e : ghid g (gar g p - 1) = false := by
          cases e : ghid g (gar g p - 1)
          · rfl
          · exact absurd (by rw [(stc2 _ _ _).mpr (by rw [decide_eq_true yes.2, e]; rfl)]; rfl) c2
        rw [e] at this
        exact this
      · have := hp τ hτ
        have e := (stc2 _ _ _).mp ((nI_eq (b := 2) (by omega) (by omega)).mp c2)
        rw [Bool.and_eq_true] at e
        rw [e.2] at this
        exact this
    · have c0 : gar g p = 0 := (stc0 _ _ _).mp ((nI_eq (b := 0) (by omega) (by omega)).mp c)
      have no : ¬ (told (gN g) (gS g) a b = true ∧ 0 < gar g p) := fun q => by
        have := q.2
        omega
      rw [if_neg no, if_neg no] at hp
      exact hp σ h
theorem XI.ap (h : XI σ g) {k : Nat} (hk : k < gc g) : σ.1 6 k = nI (ixp g (gpo g k)) ∧ σ.1 5 (ixp g (gpo g k)) = gtm g k ∧ ixp g (gpo g k) < 132 := by
  have hGI := h.2.2.2.2.2.2.2
  have hx := ixp_spec (hGI.1 k hk).1 (hGI.1 k hk).2.1
  have := pT_le g
  exact ⟨(h.2.1.2.1 k hk).1, (h.2.1.2.1 k hk).2, by omega⟩
theorem xSince_ok {t : Int32} (h : XI σ g) (hp : ∀ σ' : Sto, XI σ' (gSince g t) → Post (rSince g t) σ') : X7_since_wp σ t Post := by
  have hc := h.2.2.2.2.2.2.2.c_le
  intro K hK
  have loop : ∀ j i, i + j = gc g → ∀ υ : Sto, XI υ (gHid g (fun k => if k < i then decide (¬ gtm g k < t) else ghid g k)) → K υ (nI i) := by
    intro j
    induction j with
    | zero =>
      intro i hi υ hυ
      have hi : i = gc g := hi
      subst hi
      apply hK
      unfold X7_since_b2
      have e : υ.1 1 3 = nI (gc g) := hυ.1.2.2.2.2.2.2.1
      rw [e]
      refine pk_le (gc g) (gc g) (fun _ => ?_) (fun z => by omega)
      exact xhidden_ok hυ (hp υ hυ)
    | succ j ih =>
      intro i hi υ hυ
      apply hK
      unfold X7_since_b2
      have e : υ.1 1 3 = nI (gc g) := hυ.1.2.2.2.2.2.2.1
      have hi2 : i < gc g := by omega
      obtain ⟨f1, f2, f3⟩ := hυ.ap (k := i) hi2
      have f2 : υ.1 5 (ixp g (gpo g i)) = gtm g i := f2
      have f1 : υ.1 6 i = nI (ixp g (gpo g i)) := f1
      have f3 : ixp g (gpo g i) < 132 := f3
      rw [e, nI_clamp (by omega), f1, nI_clamp (by omega), f2, nI_1]
      have next : ∀ u : Bool, u = decide (¬ gtm g i < t) → X6_setHidden_wp υ (nI (ixp g (gpo g i))) (b2i u) (fun σ2 => K σ2 (nI (i + 1))) := by
        intro u hu
        refine (setHidden_ok (is := u) (Post := fun σ2 => K σ2 (nI (i + 1))) (k := i) hυ hi2 (fun τ hτ _ => ih (i + 1) (by omega) τ ?_) :)
        have ef : upN (fun k => if k < i then decide (¬ gtm g k < t) else ghid g k) i u = (fun k => if k < i + 1 then decide (¬ gtm g k < t) else ghid g k) := by
          funext k
          by_cases z : k = i
          · subst z
            rw [upN_e, if_pos (Nat.lt_succ_self k), hu]
          · rw [upN_n _ _ z]
            by_cases y : k < i
            · rw [if_pos y, if_pos (by omega)]
            · rw [if_neg y, if_neg (by omega)]
        rw [← ef]
        exact hτ
      refine pk_le (gc g) i (fun z => by omega) (fun z => ⟨vp_in_nI (by omega) (by decide), vp_in_nI f3 (by decide), fun c => ?_, fun c => ?_⟩)
      · exact next false (by rw [decide_eq_false]; exact fun q => q c)
      · exact next true (by rw [decide_eq_true]; exact c)
  refine loop (gc g) 0 (by omega) σ ?_
  have ef : (fun k => if k < 0 then decide (¬ gtm g k < t) else ghid g k) = ghid g := by
    funext k
    rw [if_neg (by omega)]
  rw [ef]
  exact h
theorem xSplit_ok {seed q r : Int32} (h : XI σ g) (hp : ∀ σ' : Sto, XI σ' (gSplit g seed q r) → Post (rSplit g seed q r) σ') : X7_split_wp σ seed q r Post := by
  have hc := h.2.2.2.2.2.2.2.c_le
  intro K hK
  have bad : okSplit q r = false → Post (-2 : Int32) σ := by
    intro z
    unfold gSplit rSplit at hp
    rw [z] at hp
    exact hp σ h
  refine wi_ok (b2i_fi _ (fun h1 => wi_ok (b2i_if _ (fun h2 => ?_) (fun h2 => bad (by rw [okSplit_wi, h1, h2]; rfl)))) (fun h1 => bad (by rw [okSplit_wi, h1]; rfl)))
  have hok : okSplit q r = true := by rw [okSplit_wi, h1, h2]; rfl
  unfold gSplit rSplit at hp
  rw [hok, if_pos rfl, if_pos rfl] at hp
  have q0 : ¬ q = 0 := fun z => (of_decide_eq_true hok).1 (by rw [z]; decide)
  unfold X2_startFrom_wp
  have loop : ∀ j i, i + j = gc g → ∀ υ : Sto, υ.1 28 0 = zsq seed i → XI υ (gHid g (fun k => if k < i then decide (drw seed k - drw seed k / q * q = r) else ghid g k)) → K υ (nI i) := by
    intro j
    induction j with
    | zero =>
      intro i hi υ uz hυ
      have hi : i = gc g := hi
      subst hi
      apply hK
      unfold X7_split_b35
      have e : υ.1 1 3 = nI (gc g) := hυ.1.2.2.2.2.2.2.1
      rw [e]
      refine pk_le (gc g) (gc g) (fun _ => ?_) (fun z => by omega)
      exact xhidden_ok hυ (hp υ hυ)
    | succ j ih =>
      intro i hi υ uz hυ
      apply hK
      unfold X7_split_b35
      have e : υ.1 1 3 = nI (gc g) := hυ.1.2.2.2.2.2.2.1
      have hi2 : i < gc g := by omega
      obtain ⟨f1, f2, f3⟩ := hυ.ap (k := i) hi2
      have f1 : υ.1 6 i = nI (ixp g (gpo g i)) := f1
      have f3 : ixp g (gpo g i) < 132 := f3
      rw [e, nI_clamp (by omega), f1, nI_1]
      unfold X2_next_wp
      rw [uz]
      have next : ∀ u : Bool, u = decide (drw seed i - drw seed i / q * q = r) → X6_setHidden_wp (sI υ 28 0 (zsq seed (i + 1))) (nI (ixp g (gpo g i))) (b2i u) (fun σ2 => K σ2 (nI (i + 1))) := by
        intro u hu
        have hυ2 := hυ.kp (Xk.i (σ := υ) (k := 28) (j := 0) (x := zsq seed (i + 1)) (by decide))
        refine (setHidden_ok (is := u) (Post := fun σ2 => K σ2 (nI (i + 1))) (k := i) hυ2 hi2 (fun τ hτ e28 => ih (i + 1) (by omega) τ (by rw [e28, sI_e]) ?_) :)
        have ef : upN (fun k => if k < i then decide (drw seed k - drw seed k / q * q = r) else ghid g k) i u = (fun k => if k < i + 1 then decide (drw seed k - drw seed k / q * q = r) else ghid g k) := by
          funext k
          by_cases z : k = i
          · subst z
            rw [upN_e, if_pos (Nat.lt_succ_self k), hu]
          · rw [upN_n _ _ z]
            by_cases y : k < i
            · rw [if_pos y, if_pos (by omega)]
            · rw [if_neg y, if_neg (by omega)]
        rw [← ef]
        exact hτ
      refine pk_le (gc g) i (fun z => by omega) (fun z => ⟨vp_in_nI (by omega) (by decide), q0, fun c => ?_, fun c => ?_⟩)
      · exact next false (by rw [decide_eq_false]; exact c)
      · exact next true (by rw [decide_eq_true]; exact c)
  refine loop (gc g) 0 (by omega) _ (by rw [sI_e]; rfl) ?_
  have ef : (fun k => if k < 0 then decide (drw seed k - drw seed k / q * q = r) else ghid g k) = ghid g := by
    funext k
    rw [if_neg (by omega)]
  rw [ef]
  exact h.kp (Xk.i (by decide))
theorem xCount_ok {k : Int32} (h : XI σ g) (hp : ∀ σ' : Sto, XI σ' g → Post (rCount g k) σ') : X7_count_wp σ k Post := by
  have hp := hp σ h
  unfold X7_count_wp
  unfold rCount at hp
  refine ⟨fun e => ?_, fun e => ?_, fun e => ?_, fun e => ?_, fun e => ?_, fun e0 e1 e2 e3 e4 => ?_⟩
  · subst e
    rw [h.1.1]
    exact hp
  · subst e
    rw [h.1.2.2.2.2.2.1]
    exact hp
  · subst e
    rw [h.1.2.2.2.2.2.2.1]
    exact hp
  · subst e
    exact xhidden_ok h hp
  · subst e
    exact candTotal_ok h hp
  · rw [if_neg e0, if_neg e1, if_neg e2, if_neg e3, if_neg e4] at hp
    exact hp
theorem xPaths_ok {v w s : Int32} (h : XI σ g) (hp : ∀ σ' : Sto, XI σ' (gPaths g v w s) → Post (rPaths v w s) σ') : X7_paths_wp σ v w s Post := by
  have bad : okPaths v w s = false → Post (-2 : Int32) σ := by
    intro z
    unfold gPaths rPaths at hp
    rw [z] at hp
    exact hp σ h
  unfold X7_paths_wp
  refine wi_ok (b2i_fi _ (fun h1 => wi_ok (b2i_fi _ (fun h2 => wi_ok (b2i_if _ (fun h3 => ?_) (fun h3 => bad (by rw [okPaths_wi, h1, h2, h3]; rfl)))) (fun h2 => bad (by rw [okPaths_wi, h1, h2]; rfl)))) (fun h1 => bad (by rw [okPaths_wi, h1]; rfl)))
  have hok : okPaths v w s = true := by rw [okPaths_wi, h1, h2, h3]; rfl
  obtain ⟨e1, e2, e3, e4, e5, e6⟩ := okPaths_spec hok
  unfold gPaths rPaths at hp
  rw [hok, if_pos rfl, if_pos rfl] at hp
  unfold X4_setPaths_wp
  obtain ⟨a1, a2, a3, a4, a5, a6, a7, a8⟩ := h
  refine hp _ ⟨?_, ?_, ?_, ⟨?_, e2, ?_, e4, ?_, e6⟩, ?_, a6, a7, a8⟩
  · unfold XN at a1 ⊢
    simp only [sI_o _ _ _ (show 1 ≠ 11 by decide), sI_o _ _ _ (show 2 ≠ 11 by decide), sI_o _ _ _ (show 3 ≠ 11 by decide), sI_o _ _ _ (show 7 ≠ 11 by decide)]
    exact a1
  · unfold XA at a2 ⊢
    simp only [sI_o _ _ _ (show 4 ≠ 11 by decide), sI_o _ _ _ (show 5 ≠ 11 by decide), sI_o _ _ _ (show 6 ≠ 11 by decide), sI_o _ _ _ (show 9 ≠ 11 by decide), sI_o _ _ _ (show 10 ≠ 11 by decide)]
    exact a2
  · unfold XG at a3 ⊢
    simp only [sI_o _ _ _ (show 8 ≠ 11 by decide)]
    exact a3
  · rw [sI_n _ _ _ (by decide), sI_n _ _ _ (by decide), sI_e]
    exact e1
  · rw [sI_n _ _ _ (by decide), sI_e]
    exact e3
  · rw [sI_e]
    exact e5
  · unfold XW at a5 ⊢
    simp only [sI_o _ _ _ (show 13 ≠ 11 by decide)]
    exact a5
theorem XI.wts {τ : Sto} {wt : Nat → Int} (h : XI σ g) (k : ∀ j, j ≤ 12 → τ.1 j = σ.1 j) (k2 : τ.2 29 = σ.2 29) (kw : XW τ.1 wt) : XI τ (gWt g wt) := by
  obtain ⟨a1, a2, a3, a4, a5, a6, a7, a8⟩ := h
  refine ⟨?_, ?_, ?_, ?_, kw, ?_, ?_, a8⟩
  · unfold XN at a1 ⊢
    rw [k 1 (by decide), k 2 (by decide), k 3 (by decide), k 7 (by decide)]
    exact a1
  · unfold XA at a2 ⊢
    rw [k 4 (by decide), k 5 (by decide), k 6 (by decide), k 9 (by decide), k 10 (by decide)]
    exact a2
  · unfold XG at a3 ⊢
    rw [k 8 (by decide)]
    exact a3
  · unfold XP at a4 ⊢
    rw [k 11 (by decide)]
    exact a4
  · rw [k2]; exact a6
  · rw [k2]; exact a7
theorem xWeigh_ok {k w : Int32} (h : XI σ g) (hp : ∀ σ' : Sto, XI σ' (gWeigh g k w) → Post (rWeigh g k w) σ') : X7_weigh_wp σ k w Post := by
  have bad : ¬ (okMeas k = true ∧ okW w = true) → Post (-2 : Int32) σ := by
    intro z
    unfold gWeigh rWeigh at hp
    rw [if_neg z, if_neg z] at hp
    exact hp σ h
  unfold X7_weigh_wp
  refine xisMeas_ok (b2i_fi _ (fun hk => wi_ok (b2i_if _ (fun hw => ?_) (fun hw => bad (fun z => by rw [← okW_wi] at hw; rw [hw] at z; exact absurd z.2 (by decide))))) (fun hk => bad (fun z => by rw [hk] at z; exact absurd z.1 (by decide))))
  rw [← okW_wi] at hw
  obtain ⟨e1, e2⟩ := okMeas_spec hk
  obtain ⟨f1, f2, f3⟩ := okW_spec hw
  unfold gWeigh rWeigh at hp
  rw [if_pos ⟨hk, hw⟩, if_pos ⟨hk, hw⟩] at hp
  generalize nn k = i at *
  rw [e1, nI_clamp (by omega), (h.2.2.2.2.1 i (by omega)).1]
  have v1 : vp_in (nI i) 11 := vp_in_nI (by omega) (by decide)
  refine ⟨v1, v1, hp _ (h.wts (fun j hj => sI_o _ _ _ (by omega)) rfl (fun j hj => ?_))⟩
  by_cases z : j = i
  · subst z
    rw [sI_e, upN_e]
    exact ⟨f1, f2, f3⟩
  · rw [sI_n _ _ _ z, upN_n _ _ z]
    exact h.2.2.2.2.1 j hj
theorem xWeight_ok {k : Int32} (h : XI σ g) (hp : ∀ σ' : Sto, XI σ' g → Post (rWeight g k) σ') : X7_weight_wp σ k Post := by
  unfold X7_weight_wp
  have hp := hp σ h
  unfold rWeight at hp
  refine xisMeas_ok (b2i_if _ (fun hk => ?_) (fun hk => ?_))
  · rw [hk, if_pos rfl] at hp
    obtain ⟨e1, e2⟩ := okMeas_spec hk
    generalize nn k = i at *
    rw [e1, nI_clamp (by omega), (h.2.2.2.2.1 i (by omega)).1]
    exact ⟨vp_in_nI (by omega) (by decide), hp⟩
  · rw [hk, if_neg (by decide)] at hp
    exact hp
theorem xTop_ok {Post : Int64 → Sto → Prop} (h : XI σ g) (hp : Post (gbt g) σ) : X7_top_wp σ Post := by
  unfold X7_top_wp
  rw [h.2.2.2.2.2.1]
  exact hp
theorem xBottom_ok {Post : Int64 → Sto → Prop} (h : XI σ g) (hp : Post (gbb g) σ) : X7_bottom_wp σ Post := by
  unfold X7_bottom_wp
  rw [h.2.2.2.2.2.2.1]
  exact hp
theorem XI.gP_le (h : XI σ g) (k a b : Nat) : gP g k a b ≤ 1404 * SC := prt_le h.1.2.2.1 h.2.2.2.1.2.1 h.2.2.2.1.2.2.2.1 k a b
theorem XI.mv_lt (h : XI σ g) (p : Nat) : (mvp (gP g) (gwt g) p).natAbs < 2 ^ 63 := mixv_lt (fun k a b => h.gP_le k a b) (fun k hk => (h.2.2.2.2.1 k hk).2) _ _
theorem xScore_ok {a b k : Int32} (h : XI σ g) (hp : ∀ σ' : Sto, XI σ' (gScore g a b k) → Post (rScore g a b k) σ') : X7_score_wp σ a b k Post := by
  have same : ¬ (told (gN g) (gS g) a b = true ∧ okSc k = true) → Post (rScore g a b k) σ := fun q => hp σ (by unfold gScore; rw [if_neg q]; exact h)
  unfold X7_score_wp
  refine pairFor_ok h ?_
  cases ht : told (gN g) (gS g) a b
  · rw [pF_f ht]
    have := same (fun z => by rw [ht] at z; exact absurd z.1 (by decide))
    unfold rScore at this
    rw [ht, if_neg (by decide)] at this
    exact ⟨fun q => absurd rfl q, fun _ => this⟩
  · rw [pF_t ht]
    obtain ⟨p, ep, p1, p2, p3, p4, p5, p6, p7⟩ := h.told ht
    rw [← ep, SC_lz]
    have SCl := SC_lt
    have SCp := SC_pos
    have mix : k = 11 → X5_mixOf_wp σ (nI (ixp g p)) (fun r5 σ5 => X0_show_wp σ5 r5 (lz SC) (fun σ6 => Post (1 : Int32) σ6)) := fun hk => by
      have hT : okSc k = true := by rw [hk]; decide
      unfold gScore rScore vSc at hp
      rw [if_pos ⟨ht, hT⟩, ht, hT, if_pos rfl, if_pos rfl, ← ep, if_pos hk] at hp
      refine mixOf_ok h h.2.2.2.2.1 p4 ?_
      rw [p5]
      have hl := h.mv_lt p
      refine xshow_ok (by omega) (by omega) SCp (by omega) (hp _ (h.bd _ _))
    refine ⟨fun _ => xisMeas_ok (b2i_if _ (fun hk => ⟨fun k11 => ?_, mix⟩) (fun hk => ⟨fun k11 => ⟨fun q => absurd k11 q, mix⟩, fun k11 => ?_⟩)), fun q => absurd q (nI_nm1 (by omega))⟩
    · obtain ⟨e1, e2⟩ := okMeas_spec hk
      have hT : okSc k = true := by
        rw [e1]
        unfold okSc
        exact decide_eq_true ⟨nI_pos (by omega), (nI_leI (b := 11) (by omega) (by omega)).mpr (by omega)⟩
      unfold gScore rScore vSc at hp
      rw [if_pos ⟨ht, hT⟩, ht, hT, if_pos rfl, if_pos rfl, ← ep, if_neg k11] at hp
      have : X4_partsOf_wp σ (nI (nn k)) (nI (ixp g p)) (fun r3 σ3 => X0_show_wp σ3 r3 (lz SC) (fun σ4 => Post (1 : Int32) σ4)) := by
        refine partsOf_ok h p4 e2 ?_
        rw [p5]
        have hl := h.gP_le (nn k) (p / 12) (p % 12)
        refine xshow_ok (by omega) (by omega) SCp (by omega) (hp _ (h.bd _ _))
      rw [← e1] at this
      exact this
    · have no : okSc k = false := by
        cases e : okSc k
        · rfl
        · exfalso
          have e := of_decide_eq_true e
          obtain ⟨j, hj, ej⟩ := nI_of e.1
          rw [ej] at e k11
          have l : j ≤ 11 := (nI_leI (b := 11) hj (by omega)).mp e.2
          have n : j ≠ 11 := fun q => k11 (by rw [q]; rfl)
          have : okMeas k = true := by
            rw [ej]
            exact decide_eq_true ⟨nI_pos hj, fun q => by
              have := (nI_ltI (a := 10) (by omega) hj).mp q
              omega⟩
          rw [this] at hk
          cases hk
      have := same (fun z => by rw [no] at z; exact absurd z.2 (by decide))
      unfold rScore at this
      rw [ht, no, if_pos rfl, if_neg (by decide)] at this
      exact this
end XE
