/-! the reference's cache (known), its mix, its compare -/
/-- what known and mix leave as it was -/
def Kp (σ σ' : Sto) : Prop := (∀ k, k ≠ 10 → k ≠ 11 → k ≠ 12 → σ'.1 k = σ.1 k) ∧ (∀ k, k ≠ 0 → k ≠ 8 → k ≠ 9 → σ'.2 k = σ.2 k) ∧ (∀ j, j ≠ 19 → j ≠ 20 → σ'.2 0 j = σ.2 0 j)
theorem Kp.rf (σ : Sto) : Kp σ σ := ⟨fun _ _ _ _ => rfl, fun _ _ _ _ => rfl, fun _ _ _ => rfl⟩
theorem Kp.tr {σ τ υ : Sto} (h : Kp σ τ) (h2 : Kp τ υ) : Kp σ υ := ⟨fun k a b c => (h2.1 k a b c).trans (h.1 k a b c), fun k a b c => (h2.2.1 k a b c).trans (h.2.1 k a b c), fun j a b => (h2.2.2 j a b).trans (h.2.2 j a b)⟩
theorem Kp.fr (σ : Sto) (P : Int) : Kp σ (fr σ P) := ⟨fun _ _ _ _ => rfl, fun k h0 _ _ => by funext j; exact tb_o _ _ _ (fun e => h0 e.1), fun j h1 h2 => tb_o _ _ _ (fun e => e.2.elim h1 h2)⟩
/-- the net, the groups and the path numbers that the measures read -/
def MB (I : Nat → Nat → Int32) (N S : Nat) (ar : Nat → Nat) (hid : Nat → Bool) (grp : Nat → Nat) (v w s : Nat) : Prop := MNet I N S ar hid ∧ MGrp I grp ∧ MPar I v w s ∧ (∀ x, x < 12 → lead ar hid x x = false)
theorem MB.kp {σ τ : Sto} {N S : Nat} {ar : Nat → Nat} {hid : Nat → Bool} {grp : Nat → Nat} {v w s : Nat} (h : MB σ.1 N S ar hid grp v w s) (h0 : τ.1 0 = σ.1 0) (h1 : τ.1 1 = σ.1 1) (h5 : τ.1 5 = σ.1 5) (h6 : τ.1 6 = σ.1 6) : MB τ.1 N S ar hid grp v w s := by
  obtain ⟨a, b, c, d⟩ := h
  refine ⟨a.same (by rw [h0]) (by rw [h0]) h1 h5, ?_, ?_, d⟩
  · unfold MGrp at b ⊢
    rw [h6]
    exact b
  · unfold MPar at c ⊢
    rw [h0]
    exact c
theorem MB.of {σ τ : Sto} {N S : Nat} {ar : Nat → Nat} {hid : Nat → Bool} {grp : Nat → Nat} {v w s : Nat} (h : MB σ.1 N S ar hid grp v w s) (k : Kp σ τ) : MB τ.1 N S ar hid grp v w s := h.kp (k.1 0 (by decide) (by decide) (by decide)) (k.1 1 (by decide) (by decide) (by decide)) (k.1 5 (by decide) (by decide) (by decide)) (k.1 6 (by decide) (by decide) (by decide))
/-- what is kept of a measure k holds -/
def MCk (σ : Sto) (N S : Nat) (P : Nat → Nat → Nat → Nat) (k : Nat) : Prop := ∀ a b, a < N → b < N → isP N S a b = true → σ.2 8 (144 * k + 12 * a + b) = lz (fT (P k a b : Nat)) ∧ σ.2 9 (144 * k + 12 * a + b) = lz (fB (P k a b : Nat))
def MCa (σ : Sto) (N S : Nat) (P : Nat → Nat → Nat → Nat) : Prop := ∀ k, k < 11 → σ.1 10 k = 0 ∨ MCk σ N S P k
theorem ix3 (k a b : Nat) : (((144 : Int32) * nI k) + ((12 : Int32) * nI a)) + nI b = nI (144 * k + 12 * a + b) := by rw [show (144 : Int32) = nI 144 from rfl, show (12 : Int32) = nI 12 from rfl, pk_mul, pk_mul, nI_add, nI_add]
theorem ix2 (k p : Nat) : ((144 : Int32) * nI k) + nI p = nI (144 * k + p) := by rw [show (144 : Int32) = nI 144 from rfl, pk_mul, nI_add]
theorem div12 {p : Nat} (h : p < 2 ^ 31) : nI p / (12 : Int32) = nI (p / 12) := by rw [show (12 : Int32) = nI 12 from rfl, pk_div h (by omega) (by omega)]
theorem rem12 {p : Nat} (h : p < 2 ^ 31) : nI p - nI p / (12 : Int32) * (12 : Int32) = nI (p % 12) := by rw [show (12 : Int32) = nI 12 from rfl, pk_rem h (by omega) (by omega)]
theorem fr_t (σ : Sto) (P : Int) : (fr σ P).2 0 19 = lz (fT P) := tb_t _ _ _
theorem fr_b (σ : Sto) (P : Int) : (fr σ P).2 0 20 = lz (fB P) := tb_b _ _ _
theorem TS.kp {σ τ : Sto} {P : Int} (h : TS σ τ P) : Kp σ τ := ⟨fun k _ a b => h.2 k a b, fun k h0 h8 h9 => by rw [h.1]; exact (Kp.fr σ P).2.1 k h0 h8 h9, fun j a b => by rw [h.1]; exact (Kp.fr σ P).2.2 j a b⟩
section MK
variable {σ : Sto} {N S : Nat} {ar : Nat → Nat} {hid : Nat → Bool} {grp : Nat → Nat} {v w s : Nat}
set_option maxHeartbeats 1000000 in
theorem known_ok {a b k : Nat} {Post : Sto → Prop} (h : MB σ.1 N S ar hid grp v w s) (hc : MCa σ N S (prt N S (lead ar hid) grp v w s)) (ha : a < N) (hb : b < N) (hab : isP N S a b = true) (hk : k < 11)
    (hp : ∀ σ' : Sto, Kp σ σ' → MCa σ' N S (prt N S (lead ar hid) grp v w s) → σ'.2 0 19 = lz (fT (prt N S (lead ar hid) grp v w s k a b : Nat)) → σ'.2 0 20 = lz (fB (prt N S (lead ar hid) grp v w s k a b : Nat)) → Post σ') : X8_known_wp σ (nI a) (nI b) (nI k) Post := by
  generalize hPe : prt N S (lead ar hid) grp v w s = P at *
  have hN := h.1.2.2.1
  intro K hK
  -- the end, from a store where measure k is kept
  have fin : ∀ τ : Sto, Kp σ τ → MCa τ N S P → MCk τ N S P k → Post (sJ (sJ (sI τ 10 (nI k).toNatClampNeg (vp_nar .boolean (1 : Int32))) 0 19 (τ.2 8 (nI (144 * k + 12 * a + b)).toNatClampNeg)) 0 20 (τ.2 9 (nI (144 * k + 12 * a + b)).toNatClampNeg)) := by
    intro τ kp ca ck
    have hck := ck a b ha hb hab
    rw [nI_clamp (by omega), nI_clamp (by omega), hck.1, hck.2]
    show Post (tb (sI τ 10 k (vp_nar .boolean (1 : Int32))) _ _)
    refine hp _ ⟨fun j h1 h2 h3 => ?_, fun j h1 h2 h3 => ?_, fun j h1 h2 => ?_⟩ (fun k' hk' => ?_) (tb_t _ _ _) (tb_b _ _ _)
    · rw [tb_1, sI_o _ _ _ h1]
      exact kp.1 j h1 h2 h3
    · rw [← kp.2.1 j h1 h2 h3]
      funext i
      exact tb_o _ _ _ (fun e => h1 e.1)
    · rw [tb_o _ _ _ (fun e => e.2.elim h1 h2)]
      exact kp.2.2 j h1 h2
    · have e8 : ∀ i, (tb (sI τ 10 k (vp_nar .boolean (1 : Int32))) (lz (fT (P k a b : Nat))) (lz (fB (P k a b : Nat)))).2 8 i = τ.2 8 i := fun i => tb_o _ _ _ (fun e => absurd e.1 (by decide))
      have e9 : ∀ i, (tb (sI τ 10 k (vp_nar .boolean (1 : Int32))) (lz (fT (P k a b : Nat))) (lz (fB (P k a b : Nat)))).2 9 i = τ.2 9 i := fun i => tb_o _ _ _ (fun e => absurd e.1 (by decide))
      by_cases e : k' = k
      · subst e
        refine Or.inr (fun a' b' h1 h2 h3 => ?_)
        rw [e8, e9]
        exact ck a' b' h1 h2 h3
      · rcases ca k' hk' with q | q
        · exact Or.inl (by rw [tb_1, sI_n _ _ _ e]; exact q)
        · refine Or.inr (fun a' b' h1 h2 h3 => ?_)
          rw [e8, e9]
          exact q a' b' h1 h2 h3
  have vk : vp_in (nI k) 11 := vp_in_nI hk (by decide)
  have vi : vp_in (nI (144 * k + 12 * a + b)) 1584 := vp_in_nI (by omega) (by decide)
  by_cases hkn : σ.1 10 k = 0
  · have loop : ∀ j p, p + j = 144 → ∀ τ : Sto, Kp σ τ → τ.1 10 = σ.1 10 → (∀ i, i < 144 * k ∨ 144 * k + 144 ≤ i → τ.2 8 i = σ.2 8 i ∧ τ.2 9 i = σ.2 9 i) → (∀ a b, a < N → b < N → isP N S a b = true → 12 * a + b < p → τ.2 8 (144 * k + 12 * a + b) = lz (fT (P k a b : Nat)) ∧ τ.2 9 (144 * k + 12 * a + b) = lz (fB (P k a b : Nat))) → K τ (nI p) := by
      intro j
      induction j with
      | zero =>
        intro p hpj τ kp e10 eo ed
        have hpj : p = 144 := hpj
        subst hpj
        apply hK
        unfold X8_known_b3
        rw [ix3]
        refine ⟨fun _ => ⟨vk, vi, vi, ?_⟩, fun hn => absurd (by decide) hn⟩
        refine fin τ kp (fun k' hk' => ?_) (fun a' b' h1 h2 h3 => ed a' b' h1 h2 h3 (by omega))
        by_cases e : k' = k
        · subst e
          exact Or.inr (fun a' b' h1 h2 h3 => ed a' b' h1 h2 h3 (by omega))
        · rcases hc k' hk' with q | q
          · exact Or.inl (by rw [e10]; exact q)
          · refine Or.inr (fun a' b' h1 h2 h3 => ?_)
            have := eo (144 * k' + 12 * a' + b') (by omega)
            rw [this.1, this.2]
            exact q a' b' h1 h2 h3
      | succ j ih =>
        intro p hpj τ kp e10 eo ed
        have hτ := h.of kp
        have mp : p % 12 < 12 := Nat.mod_lt _ (by decide)
        have pe : 12 * (p / 12) + p % 12 = p := Nat.div_add_mod p 12
        apply hK
        unfold X8_known_b3
        rw [ix3, rem12 (by omega), div12 (by omega)]
        have skip : ∀ (hno : ∀ a b, a < N → b < N → isP N S a b = true → 12 * a + b ≠ p), K τ (nI p + 1) := by
          intro hno
          rw [nI_1]
          refine ih (p + 1) (by omega) τ kp e10 eo (fun a' b' h1 h2 h3 h4 => ed a' b' h1 h2 h3 ?_)
          have := hno a' b' h1 h2 h3
          omega
        refine ⟨fun hn => absurd hn (nI_ge (b := 144) (show p < 144 by omega) (by omega)), fun _ => ⟨vk, fun hn => ?_, fun _ => ?_⟩⟩
        · rw [nI_clamp (by omega), e10] at hn
          exact absurd hkn hn
        · refine isNode_ok hτ.1 (by omega) (b2i_fi _ (fun hb1 => ?_) (fun hb1 => ?_))
          · refine isNode_ok hτ.1 (by omega) (b2i_fi _ (fun hb2 => ?_) (fun hb2 => ?_))
            · refine isPair_ok hτ.1 (by omega) (by omega) (b2i_fi _ (fun hb3 => ?_) (fun hb3 => ?_))
              · have hb1 := of_decide_eq_true hb1
                have hb2 := of_decide_eq_true hb2
                refine measure_ok hτ.1 hτ.2.1 hτ.2.2.1 hτ.2.2.2 hb1 hb2 (by omega) (fun υ hυ => ?_)
                rw [hPe] at hυ
                rw [ix2]
                have vi2 : vp_in (nI (144 * k + p)) 1584 := vp_in_nI (by omega) (by decide)
                refine ⟨vi2, vi2, ?_⟩
                rw [nI_clamp (by omega), nI_1]
                have kυ := kp.tr hυ.kp
                have e8 : υ.2 8 = τ.2 8 := by rw [hυ.1]; funext i; exact tb_o _ _ _ (fun e => absurd e.1 (by decide))
                have e9 : υ.2 9 = τ.2 9 := by rw [hυ.1]; funext i; exact tb_o _ _ _ (fun e => absurd e.1 (by decide))
                have et : υ.2 0 19 = lz (fT (P k (p / 12) (p % 12) : Nat)) := by rw [hυ.1]; exact fr_t _ _
                have eb : υ.2 0 20 = lz (fB (P k (p / 12) (p % 12) : Nat)) := by rw [hυ.1]; exact fr_b _ _
                rw [et, eb]
                have q8 : ∀ (x y : Int64) (i : Nat), i ≠ 144 * k + p → (sJ (sJ υ 8 (144 * k + p) x) 9 (144 * k + p) y).2 8 i = τ.2 8 i := fun x y i hne => by rw [sJ_o _ _ _ (by decide), sJ_n _ _ _ hne, e8]
                have q9 : ∀ (x y : Int64) (i : Nat), i ≠ 144 * k + p → (sJ (sJ υ 8 (144 * k + p) x) 9 (144 * k + p) y).2 9 i = τ.2 9 i := fun x y i hne => by rw [sJ_n _ _ _ hne, sJ_o _ _ _ (by decide), e9]
                refine ih (p + 1) (by omega) _ ⟨fun i h1 h2 h3 => kυ.1 i h1 h2 h3, fun i h1 h2 h3 => ?_, fun i h1 h2 => ?_⟩ ((hυ.2 10 (by decide) (by decide)).trans e10) (fun i hi => ?_) (fun a' b' h1 h2 h3 h4 => ?_)
                · rw [sJ_o _ _ _ h3, sJ_o _ _ _ h2]
                  exact kυ.2.1 i h1 h2 h3
                · rw [sJ_o _ _ _ (by decide), sJ_o _ _ _ (by decide)]
                  exact kυ.2.2 i h1 h2
                · have hne : i ≠ 144 * k + p := by omega
                  rw [q8 _ _ _ hne, q9 _ _ _ hne]
                  exact eo i hi
                · by_cases e : 12 * a' + b' = p
                  · have ea : a' = p / 12 := by omega
                    have eb2 : b' = p % 12 := by omega
                    have ei : 144 * k + 12 * a' + b' = 144 * k + p := by omega
                    rw [ei, sJ_o _ _ _ (by decide), sJ_e, sJ_e, ea, eb2]
                    exact ⟨rfl, rfl⟩
                  · have hne : 144 * k + 12 * a' + b' ≠ 144 * k + p := by omega
                    rw [q8 _ _ _ hne, q9 _ _ _ hne]
                    exact ed a' b' h1 h2 h3 (by omega)
              · refine skip (fun a' b' h1 h2 h3 h4 => ?_)
                have ea : a' = p / 12 := by omega
                have eb2 : b' = p % 12 := by omega
                rw [ea, eb2, hb3] at h3
                cases h3
            · have hb2 := of_decide_eq_false hb2
              exact skip (fun a' b' h1 h2 h3 h4 => by omega)
          · have hb1 := of_decide_eq_false hb1
            exact skip (fun a' b' h1 h2 h3 h4 => by omega)
    exact loop 144 0 rfl σ (Kp.rf σ) rfl (fun _ _ => ⟨rfl, rfl⟩) (fun a' b' h1 h2 h3 h4 => by omega)
  · apply hK
    unfold X8_known_b3
    rw [ix3]
    refine ⟨fun hn => absurd hn (by decide), fun _ => ⟨vk, fun _ => ⟨vk, vi, vi, ?_⟩, fun hn => ?_⟩⟩
    · refine fin σ (Kp.rf σ) hc ?_
      rcases hc k hk with q | q
      · exact absurd q hkn
      · exact q
    · rw [nI_clamp (by omega)] at hn
      exact absurd hn hkn
end MK
