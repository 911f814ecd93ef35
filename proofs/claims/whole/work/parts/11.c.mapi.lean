/-! arc, group, hide -/
def okTime (t : Int32) : Bool := decide (¬ t < 0 ∧ t ≤ 9999)
def pAt (a b : Int32) : Nat := 12 * nn a + nn b
def rArc (g : GS) (a b t : Int32) : Int32 := if told (gN g) (gS g) a b then (if okTime t then (if gar g (pAt a b) = 0 then nI (gc g + 1) else -3) else -2) else -1
def gArc (g : GS) (a b t : Int32) : GS := if told (gN g) (gS g) a b = true ∧ okTime t = true ∧ gar g (pAt a b) = 0 then gmk (gN g) (gS g) (gc g + 1) (arA (gS g) (gc g) (ori (gN g) (gS g) (nn a) (nn b)) (gar g)) (upN (gpo g) (gc g) (ori (gN g) (gS g) (nn a) (nn b))) (upN (ghid g) (gc g) false) (upN (gtm g) (gc g) t) (ggrp g) (gwt g) (gv g) (gw g) (gs g) (gbt g) (gbb g) else g
theorem mArc_ok {σ : Sto} {g : GS} {a b t : Int32} {Post : Int32 → Sto → Prop} (h : MI σ g) (hp : ∀ σ' : Sto, MI σ' (gArc g a b t) → Post (rArc g a b t) σ') : X8_arc_wp σ a b t Post := by
  have hN := h.1.1.2.2.1
  have hS := h.1.1.2.2.2.2.1
  have same : ¬ (told (gN g) (gS g) a b = true ∧ okTime t = true ∧ gar g (pAt a b) = 0) → Post (rArc g a b t) σ := fun q => hp σ (by unfold gArc; rw [if_neg q]; exact h)
  unfold X8_arc_wp
  refine isTold_ok h.1.1 (b2i_if _ (fun ht => ?_) (fun ht => ?_))
  · have badT : okTime t = false → Post (-2 : Int32) σ := fun q => by
      have := same (fun z => by rw [q] at z; exact absurd z.2.1 (by decide))
      unfold rArc at this
      rw [ht, q, if_pos rfl, if_neg (by decide)] at this
      exact this
    obtain ⟨x, y, hx, hy, ea, eb, hxy, na, nb⟩ := told_spec hN ht
    refine ⟨fun c => badT (decide_eq_false (fun q => q.1 c)), fun c1 => ⟨fun c2 => ?_, fun c => badT (decide_eq_false (fun q => c q.2))⟩⟩
    have hT : okTime t = true := decide_eq_true ⟨c1, c2⟩
    have pa : pAt a b = 12 * x + y := by unfold pAt; rw [na, nb]
    obtain ⟨o1, o2, o3, o4, o5⟩ := ori_spec hN hx hy hxy
    obtain ⟨e1, e2⟩ := h.1.1.2.2.2.2.2.1 (12 * x + y) (by omega)
    have hGI := h.2.2.2.2.2.2.2
    rw [ea, eb, ix, ix, nI_clamp (by omega), nI_clamp (by omega), e1, le0 (by omega)]
    have v1 : vp_in (nI (12 * x + y)) 144 := vp_in_nI (by omega) (by decide)
    have v2 : vp_in (nI (12 * y + x)) 144 := vp_in_nI (by omega) (by decide)
    refine ⟨v1, fun h0 => ?_, fun h0 => ?_⟩
    · have cond : told (gN g) (gS g) a b = true ∧ okTime t = true ∧ gar g (pAt a b) = 0 := ⟨ht, hT, by rw [pa]; exact h0⟩
      have ao : gar g (ori (gN g) (gS g) x y) = 0 := by rw [← hGI.at hN hx hy hxy]; exact h0
      have GIn := hGI.add o1 o2 ao (fun q => by rw [hGI.sym q o1]; exact ao)
      have hc := GIn.c_le
      unfold gArc rArc at hp
      rw [if_pos cond, cond.1, cond.2.1, cond.2.2, if_pos rfl, if_pos rfl, if_pos rfl, na, nb] at hp
      refine changed_ok (fun τ q1 q2 q3 => ?_)
      have e7 : τ.1 0 7 = nI (gc g) := by rw [q2 0 (by decide)]; exact h.2.2.2.1
      have e1S : τ.1 0 1 = nI (gS g) := by rw [q2 0 (by decide)]; exact h.1.1.2.2.2.1
      have vc : vp_in (nI (gc g)) 132 := vp_in_nI (by omega) (by decide)
      rw [e7, e1S, nI_clamp (by omega), nI_1]
      refine ⟨vc, vc, vc, vc, v1, ?_⟩
      -- the new state, whichever places were written
      have fin : ∀ υ : Sto, υ.2 = τ.2 → υ.1 0 7 = nI (gc g + 1) → (∀ j, j ≠ 7 → υ.1 0 j = τ.1 0 j) → (∀ p, p < 144 → υ.1 1 p = nI (arA (gS g) (gc g) (ori (gN g) (gS g) x y) (gar g) p)) → (∀ k, υ.1 4 k = if k = gc g then t else τ.1 4 k) → (∀ k, υ.1 5 k = if k = gc g then 0 else τ.1 5 k) → υ.1 6 = τ.1 6 → υ.1 7 = τ.1 7 → υ.1 10 = τ.1 10 → Post (nI (gc g + 1)) υ := by
        intro υ u2 u7 u0 u1 u4 u5 u6 u7w u10
        refine hp υ ⟨⟨⟨?_, h.1.1.2.1, hN, ?_, hS, fun p hp9 => ⟨u1 p hp9, ?_⟩, fun k hk => ?_⟩, ?_, ?_, GIn.lead_irr _⟩, ?_, ?_, u7, fun k hk => ?_, ?_, ?_, GIn⟩
        · rw [u0 0 (by decide), q2 0 (by decide)]; exact h.1.1.1
        · rw [u0 1 (by decide), q2 0 (by decide)]; exact h.1.1.2.2.2.1
        · have := (h.1.1.2.2.2.2.2.1 p hp9).2
          show arA (gS g) (gc g) (ori (gN g) (gS g) x y) (gar g) p ≤ 132
          unfold arA
          split
          · omega
          · split <;> omega
        · show υ.1 5 k = b2i (upN (ghid g) (gc g) false k)
          rw [u5 k, q2 5 (by decide)]
          by_cases z : k = gc g
          · rw [if_pos z, z, upN_e]; rfl
          · rw [if_neg z, upN_n _ _ z]
            exact h.1.1.2.2.2.2.2.2 k hk
        · have := h.1.2.1
          show MGrp υ.1 (ggrp g)
          unfold MGrp at this ⊢
          rw [u6, q2 6 (by decide)]
          exact this
        · have := h.1.2.2.1
          show MPar υ.1 (gv g) (gw g) (gs g)
          unfold MPar at this ⊢
          rw [u0 10 (by decide), u0 11 (by decide), u0 12 (by decide), q2 0 (by decide)]
          exact this
        · exact MCa.none (fun k hk => by rw [u10]; exact q3 k hk)
        · have := h.2.2.1
          show MWt υ.1 (gwt g)
          unfold MWt at this ⊢
          rw [u7w, q2 7 (by decide)]
          exact this
        · show υ.1 4 k = upN (gtm g) (gc g) t k
          have hk : k < gc g + 1 := hk
          rw [u4 k, q2 4 (by decide)]
          by_cases z : k = gc g
          · rw [if_pos z, z, upN_e]
          · rw [if_neg z, upN_n _ _ z]
            exact h.2.2.2.2.1 k (by omega)
        · rw [u2, q1]; exact h.2.2.2.2.2.1
        · rw [u2, q1]; exact h.2.2.2.2.2.2.1
      have n0 : vp_nar .boolean (0 : Int32) = 0 := rfl
      have a1 : τ.1 1 = σ.1 1 := q2 1 (by decide)
      have hA := h.1.1.2.2.2.2.2.1
      refine pk_eq (gS g) 1 (fun s1 => ?_) (fun s1 => ⟨v2, ?_⟩)
      · refine fin _ rfl ?_ (fun j hj => ?_) (fun p hp9 => ?_) (fun k => ?_) (fun k => ?_) ?_ ?_ ?_
        · simp [sI]
        · simp [sI, hj]
        · have eo := o3 s1
          unfold arA
          rw [eo]
          by_cases z : p = 12 * x + y
          · simp [sI, z]
          · simp [sI, z, s1, a1, (hA p hp9).1]
        · simp [sI]
        · simp [sI, n0]
        · simp [sI]
        · simp [sI]
        · simp [sI]
      · refine fin _ rfl ?_ (fun j hj => ?_) (fun p hp9 => ?_) (fun k => ?_) (fun k => ?_) ?_ ?_ ?_
        · simp [sI]
        · simp [sI, hj]
        · unfold arA
          have es : swp (12 * x + y) = 12 * y + x := by unfold swp; omega
          have es2 : swp (12 * y + x) = 12 * x + y := by unfold swp; omega
          rcases o4 with z | ⟨-, z1, z2⟩
          · rw [← z, es]
            by_cases z3 : p = 12 * x + y
            · by_cases z4 : p = 12 * y + x <;> simp [sI, z3, z4]
            · by_cases z4 : p = 12 * y + x
              · simp [sI, z4, s1]
              · simp [sI, z3, z4, a1, (hA p hp9).1]
          · rw [es] at z2
            rw [← z2, es2]
            by_cases z3 : p = 12 * y + x
            · simp [sI, z3]
            · by_cases z4 : p = 12 * x + y
              · simp [sI, z3, z4, s1]
              · simp [sI, z3, z4, a1, (hA p hp9).1]
        · simp [sI]
        · simp [sI, n0]
        · simp [sI]
        · simp [sI]
        · simp [sI]
    · have := same (fun z => h0 (by rw [← pa]; exact z.2.2))
      unfold rArc at this
      rw [ht, hT, if_pos rfl, if_pos rfl, if_neg (by rw [pa]; exact h0)] at this
      exact this
  · have := same (fun z => by rw [ht] at z; exact absurd z.1 (by decide))
    unfold rArc at this
    rw [ht, if_neg (by decide)] at this
    exact this
/-! group -/
def okGrp (k : Int32) : Bool := decide (¬ k < 0 ∧ k ≤ 3)
theorem okGrp_spec {k : Int32} (h : okGrp k = true) : k = nI (nn k) ∧ nn k < 4 := by
  have h := of_decide_eq_true h
  obtain ⟨j, hj, e⟩ := nI_of h.1
  have ej : nn k = j := by unfold nn; rw [e, nI_clamp hj]
  rw [ej]
  have h2 := h.2
  rw [e] at h2
  have : j ≤ 3 := (nI_leI (b := 3) hj (by omega)).mp h2
  exact ⟨e, by omega⟩
def rGroup (g : GS) (a k : Int32) : Int32 := if nodeB (gN g) a then (if okGrp k then nI (ggrp g (nn a)) else -2) else -1
def gGroup (g : GS) (a k : Int32) : GS := if nodeB (gN g) a = true ∧ okGrp k = true then gmk (gN g) (gS g) (gc g) (gar g) (gpo g) (ghid g) (gtm g) (upN (ggrp g) (nn a) (nn k)) (gwt g) (gv g) (gw g) (gs g) (gbt g) (gbb g) else g
theorem mGroup_ok {σ : Sto} {g : GS} {a k : Int32} {Post : Int32 → Sto → Prop} (h : MI σ g) (hp : ∀ σ' : Sto, MI σ' (gGroup g a k) → Post (rGroup g a k) σ') : X8_group_wp σ a k Post := by
  have hN := h.1.1.2.2.1
  have same : ¬ (nodeB (gN g) a = true ∧ okGrp k = true) → Post (rGroup g a k) σ := fun q => hp σ (by unfold gGroup; rw [if_neg q]; exact h)
  unfold X8_group_wp
  refine isNode_any h.1.1 (b2i_if _ (fun ht => ?_) (fun ht => ?_))
  · have badT : okGrp k = false → Post (-2 : Int32) σ := fun q => by
      have := same (fun z => by rw [q] at z; exact absurd z.2 (by decide))
      unfold rGroup at this
      rw [ht, q, if_pos rfl, if_neg (by decide)] at this
      exact this
    refine ⟨fun c => badT (decide_eq_false (fun q => q.1 c)), fun c1 => ⟨fun c2 => ?_, fun c => badT (decide_eq_false (fun q => c q.2))⟩⟩
    have hT : okGrp k = true := decide_eq_true ⟨c1, c2⟩
    obtain ⟨ea, la⟩ := nodeB_spec hN ht
    obtain ⟨ek, lk⟩ := okGrp_spec hT
    unfold gGroup rGroup at hp
    rw [if_pos ⟨ht, hT⟩, ht, hT, if_pos rfl, if_pos rfl] at hp
    generalize nn a = x at *
    generalize nn k = y at *
    rw [ea, ek]
    refine changed_ok (fun τ q1 q2 q3 => ?_)
    have v1 : vp_in (nI x) 12 := vp_in_nI (by omega) (by decide)
    refine ⟨v1, v1, ?_⟩
    rw [nI_clamp (by omega), q2 6 (by decide), (h.1.2.1 x (by omega)).1]
    refine hp _ ⟨⟨h.1.1.same ?_ ?_ ?_ ?_, fun z hz => ?_, ?_, h.1.2.2.2⟩, MCa.none (fun k hk => ?_), ?_, ?_, fun k hk => ?_, ?_, ?_, h.2.2.2.2.2.2.2⟩
    · rw [sI_o _ _ _ (by decide), q2 0 (by decide)]
    · rw [sI_o _ _ _ (by decide), q2 0 (by decide)]
    · rw [sI_o _ _ _ (by decide), q2 1 (by decide)]
    · rw [sI_o _ _ _ (by decide), q2 5 (by decide)]
    · show (sI τ 6 x (nI y)).1 6 z = nI (upN (ggrp g) x y z) ∧ upN (ggrp g) x y z < 4
      by_cases e : z = x
      · subst e
        rw [sI_e, upN_e]
        exact ⟨rfl, lk⟩
      · rw [sI_n _ _ _ e, upN_n _ _ e, q2 6 (by decide)]
        exact h.1.2.1 z hz
    · have := h.1.2.2.1
      show MPar (sI τ 6 x (nI y)).1 (gv g) (gw g) (gs g)
      unfold MPar at this ⊢
      rw [sI_o _ _ _ (by decide), q2 0 (by decide)]
      exact this
    · rw [sI_o _ _ _ (by decide)]
      exact q3 k hk
    · have := h.2.2.1
      show MWt (sI τ 6 x (nI y)).1 (gwt g)
      unfold MWt at this ⊢
      rw [sI_o _ _ _ (by decide), q2 7 (by decide)]
      exact this
    · rw [sI_o _ _ _ (by decide), q2 0 (by decide)]
      exact h.2.2.2.1
    · rw [sI_o _ _ _ (by decide), q2 4 (by decide)]
      exact h.2.2.2.2.1 k hk
    · show τ.2 0 16 = _
      rw [q1]
      exact h.2.2.2.2.2.1
    · show τ.2 0 17 = _
      rw [q1]
      exact h.2.2.2.2.2.2.1
  · have := same (fun z => by rw [ht] at z; exact absurd z.1 (by decide))
    unfold rGroup at this
    rw [ht, if_neg (by decide)] at this
    exact this
/-- another choice of what is hidden -/
def gHid (g : GS) (hid : Nat → Bool) : GS := gmk (gN g) (gS g) (gc g) (gar g) (gpo g) hid (gtm g) (ggrp g) (gwt g) (gv g) (gw g) (gs g) (gbt g) (gbb g)
theorem MI.hidden {σ τ : Sto} {g : GS} {hid : Nat → Bool} (h : MI σ g) (e0 : ∀ j, j ≠ 18 → τ.1 0 j = σ.1 0 j) (e1 : ∀ k, k ≠ 0 → k ≠ 5 → k ≠ 10 → τ.1 k = σ.1 k) (e5 : ∀ k, k < 132 → τ.1 5 k = b2i (hid k)) (e10 : ∀ k, k < 11 → τ.1 10 k = 0) (e2 : τ.2 = σ.2) : MI τ (gHid g hid) := by
  obtain ⟨⟨a1, a2, a3, a4⟩, b2, b3, b4, b5, b6, b7, b8⟩ := h
  obtain ⟨c1, c2, c3, c4, c5, c6, c7⟩ := a1
  refine ⟨⟨⟨?_, c2, c3, ?_, c5, ?_, e5⟩, ?_, ?_, b8.lead_irr _⟩, MCa.none e10, ?_, ?_, ?_, ?_, ?_, b8⟩
  · rw [e0 0 (by decide)]; exact c1
  · rw [e0 1 (by decide)]; exact c4
  · rw [e1 1 (by decide) (by decide) (by decide)]; exact c6
  · unfold MGrp at a2 ⊢
    rw [e1 6 (by decide) (by decide) (by decide)]
    exact a2
  · unfold MPar at a3 ⊢
    rw [e0 10 (by decide), e0 11 (by decide), e0 12 (by decide)]
    exact a3
  · unfold MWt at b3 ⊢
    rw [e1 7 (by decide) (by decide) (by decide)]
    exact b3
  · rw [e0 7 (by decide)]; exact b4
  · rw [e1 4 (by decide) (by decide) (by decide)]; exact b5
  · rw [e2]; exact b6
  · rw [e2]; exact b7
/-! hide -/
def rHide (g : GS) (a b : Int32) : Int32 := if told (gN g) (gS g) a b = true ∧ 0 < gar g (pAt a b) then b2i (ghid g (gar g (pAt a b) - 1)) else -1
def gHide (g : GS) (a b : Int32) (is : Bool) : GS := if told (gN g) (gS g) a b = true ∧ 0 < gar g (pAt a b) then gHid g (upN (ghid g) (gar g (pAt a b) - 1) is) else g
theorem mHide_ok {σ : Sto} {g : GS} {a b : Int32} {is : Bool} {Post : Int32 → Sto → Prop} (h : MI σ g) (hp : ∀ σ' : Sto, MI σ' (gHide g a b is) → Post (rHide g a b) σ') : X8_hide_wp σ a b (b2i is) Post := by
  have hN := h.1.1.2.2.1
  have same : ¬ (told (gN g) (gS g) a b = true ∧ 0 < gar g (pAt a b)) → Post (-1 : Int32) σ := fun q => by
    have := hp σ (by unfold gHide; rw [if_neg q]; exact h)
    unfold rHide at this
    rw [if_neg q] at this
    exact this
  unfold X8_hide_wp
  refine isTold_ok h.1.1 (b2i_fi _ (fun ht => ?_) (fun ht => same (fun z => by rw [ht] at z; exact absurd z.1 (by decide))))
  obtain ⟨x, y, hx, hy, ea, eb, hxy, na, nb⟩ := told_spec hN ht
  have pa : pAt a b = 12 * x + y := by unfold pAt; rw [na, nb]
  obtain ⟨e1, e2⟩ := h.1.1.2.2.2.2.2.1 (12 * x + y) (by omega)
  rw [ea, eb, ix, nI_clamp (by omega), e1]
  have v1 : vp_in (nI (12 * x + y)) 144 := vp_in_nI (by omega) (by decide)
  have z0 : (nI (gar g (12 * x + y)) = 0) ↔ gar g (12 * x + y) = 0 := by
    rw [← nI_0, nI_eq (by omega) (by omega)]
  rw [z0]
  refine ⟨v1, fun h0 => ⟨v1, ?_⟩, fun h0 => same (fun z => by rw [pa, h0] at z; exact absurd z.2 (by decide))⟩
  obtain ⟨k, hk⟩ : ∃ k, gar g (12 * x + y) = k + 1 := ⟨gar g (12 * x + y) - 1, by omega⟩
  unfold gHide rHide at hp
  rw [pa, hk, if_pos ⟨ht, Nat.succ_pos k⟩, if_pos ⟨ht, Nat.succ_pos k⟩, Nat.add_sub_cancel] at hp
  rw [hk, nI_pred, nI_clamp (by omega), nar_b2i]
  refine changed_ok (fun τ q1 q2 q3 => ?_)
  have v2 : vp_in (nI k) 132 := vp_in_nI (by omega) (by decide)
  have e5 : τ.1 5 k = b2i (ghid g k) := by rw [q2 5 (by decide)]; exact h.1.1.2.2.2.2.2.2 k (by omega)
  rw [e5]
  have fin : MI (sI τ 5 k (b2i is)) (gHid g (upN (ghid g) k is)) := by
    refine h.hidden (fun j _ => by rw [sI_o _ _ _ (by decide), q2 0 (by decide)]) (fun i h1 h2 h3 => by rw [sI_o _ _ _ h2]; exact q2 i h3) (fun i hi => ?_) (fun i hi => by rw [sI_o _ _ _ (by decide)]; exact q3 i hi) q1
    by_cases z : i = k
    · subst z
      rw [sI_e, upN_e]
    · rw [sI_n _ _ _ z, upN_n _ _ z, q2 5 (by decide)]
      exact h.1.1.2.2.2.2.2.2 i hi
  have hp := hp _ fin
  refine ⟨v2, b2i_fi _ (fun hb => ⟨v2, ?_⟩) (fun hb => ⟨v2, ?_⟩)⟩
  · rw [hb] at hp
    exact hp
  · rw [hb] at hp
    exact hp
