/-! the reference's parted, wins, shares -/
/-- the lasting part of the reference's store -/
def Ks (σ σ' : Sto) : Prop := (∀ j, j ≠ 18 → j ≠ 28 → j ≠ 29 → σ'.1 0 j = σ.1 0 j) ∧ (∀ k, 1 ≤ k → k ≤ 7 → σ'.1 k = σ.1 k) ∧ σ'.2 0 16 = σ.2 0 16 ∧ σ'.2 0 17 = σ.2 0 17 ∧ (∀ k, 18 ≤ k → σ'.1 k = σ.1 k)
theorem Ks.rf (σ : Sto) : Ks σ σ := ⟨fun _ _ _ _ => rfl, fun _ _ _ => rfl, rfl, rfl, fun _ _ => rfl⟩
theorem Ks.tr {σ τ υ : Sto} (h : Ks σ τ) (h2 : Ks τ υ) : Ks σ υ := ⟨fun k a b c => (h2.1 k a b c).trans (h.1 k a b c), fun k a b => (h2.2.1 k a b).trans (h.2.1 k a b), h2.2.2.1.trans h.2.2.1, h2.2.2.2.1.trans h.2.2.2.1, fun k a => (h2.2.2.2.2 k a).trans (h.2.2.2.2 k a)⟩
theorem Kr.ks {σ τ : Sto} (h : Kr σ τ) : Ks σ τ := ⟨fun j _ _ _ => by rw [h.1 0 (by decide) (by decide) (by decide) (by decide)], fun k h1 h2 => h.1 k (by omega) (by omega) (by omega) (by omega), h.2.2 16 (by decide) (by decide), h.2.2 17 (by decide) (by decide), fun k h1 => h.1 k (by omega) (by omega) (by omega) (by omega)⟩
theorem MB.ks {σ τ : Sto} {N S : Nat} {ar : Nat → Nat} {hid : Nat → Bool} {grp : Nat → Nat} {v w s : Nat} (h : MB σ.1 N S ar hid grp v w s) (k : Ks σ τ) : MB τ.1 N S ar hid grp v w s := by
  obtain ⟨a, b, c, d⟩ := h
  refine ⟨a.same (k.1 0 (by decide) (by decide) (by decide)) (k.1 1 (by decide) (by decide) (by decide)) (k.2.1 1 (by decide) (by decide)) (k.2.1 5 (by decide) (by decide)), ?_, ?_, d⟩
  · unfold MGrp at b ⊢
    rw [k.2.1 6 (by decide) (by decide)]
    exact b
  · unfold MPar at c ⊢
    rw [k.1 10 (by decide) (by decide) (by decide), k.1 11 (by decide) (by decide) (by decide), k.1 12 (by decide) (by decide) (by decide)]
    exact c
theorem MWt.ks {σ τ : Sto} {wt : Nat → Int} (h : MWt σ.1 wt) (k : Ks σ τ) : MWt τ.1 wt := by
  unfold MWt at h ⊢
  rw [k.2.1 7 (by decide) (by decide)]
  exact h
theorem Ks.tb (σ : Sto) (t b : Int64) : Ks σ (tb σ t b) := ⟨fun _ _ _ _ => rfl, fun _ _ _ => rfl, tb_o _ _ _ (fun e => absurd e.2 (by decide)), tb_o _ _ _ (fun e => absurd e.2 (by decide)), fun _ _ => rfl⟩
theorem MCa.tbk {σ : Sto} {N S : Nat} {P : Nat → Nat → Nat → Nat} (h : MCa σ N S P) (t b : Int64) : MCa (tb σ t b) N S P := h.cong rfl (by funext i; exact tb_o _ _ _ (fun e => absurd e.1 (by decide))) (by funext i; exact tb_o _ _ _ (fun e => absurd e.1 (by decide)))
theorem makeG_ok {σ : Sto} {a b : Nat} {Post : Sto → Prop} (ha : a < 2 ^ 63) (hb : b < 2 ^ 63) (hb0 : 0 < b) (h : Post (tb σ (lz (a / Nat.gcd a b : Nat)) (lz (b / Nat.gcd a b : Nat)))) : X8_make_wp σ (lz a) (lz b) Post := by
  have hg0 : 0 < Nat.gcd a b := Nat.gcd_pos_of_pos_right _ hb0
  have hgl : Nat.gcd a b ≤ b := Nat.le_of_dvd hb0 (Nat.gcd_dvd_right _ _)
  unfold X8_make_wp
  rw [lg_cmp_eq, lz_0, lz_eq (by omega) (by omega) (by omega) (by omega)]
  refine ⟨fun hc => ?_, fun hc => absurd hc (by omega)⟩
  refine common_ok (by omega) (by omega) (by omega) ?_
  rw [Int.natAbs_natCast]
  have hne : ¬ lz (Nat.gcd a b : Nat) = lz 0 := by
    rw [lz_eq (by omega) (by omega) (by omega) (by omega)]
    omega
  refine ⟨hne, hne, ?_⟩
  rw [lz_div (by omega) (by omega) (by omega) (by omega), lz_div (by omega) (by omega) (by omega) (by omega)]
  rw [tdiv_exact (Int.natCast_dvd_natCast.mpr (Nat.gcd_dvd_left _ _)), tdiv_exact (Int.natCast_dvd_natCast.mpr (Nat.gcd_dvd_right _ _)), ← Int.natCast_ediv, ← Int.natCast_ediv]
  exact h
def isF (N S : Nat) (ar : Nat → Nat) (hid : Nat → Bool) (p : Nat) : Bool := isC N S (lead ar hid) p && (decide (0 < ar p) && hid (ar p - 1))
def isE (N S : Nat) (ar : Nat → Nat) (hid : Nat → Bool) (p : Nat) : Bool := isC N S (lead ar hid) p && !(decide (0 < ar p) && hid (ar p - 1))
theorem isF_le {N S : Nat} {ar : Nat → Nat} {hid : Nat → Bool} {p : Nat} (hp : p ≤ 144) : cnt p (isF N S ar hid) ≤ 132 := by
  have h1 : cnt 144 (isC N S (lead ar hid)) ≤ 132 := cntC_le N S (lead ar hid) 12 (Nat.le_refl 12)
  have h2 := cnt_mono_n (isF N S ar hid) hp
  have h3 : cnt 144 (isF N S ar hid) ≤ cnt 144 (isC N S (lead ar hid)) := cnt_mono (fun i _ h => by
    unfold isF at h
    rw [Bool.and_eq_true] at h
    exact h.1)
  omega
theorem isE_le {N S : Nat} {ar : Nat → Nat} {hid : Nat → Bool} {p : Nat} (hp : p ≤ 144) : cnt p (isE N S ar hid) ≤ 132 := by
  have h1 : cnt 144 (isC N S (lead ar hid)) ≤ 132 := cntC_le N S (lead ar hid) 12 (Nat.le_refl 12)
  have h2 := cnt_mono_n (isE N S ar hid) hp
  have h3 : cnt 144 (isE N S ar hid) ≤ cnt 144 (isC N S (lead ar hid)) := cnt_mono (fun i _ h => by
    unfold isE at h
    rw [Bool.and_eq_true] at h
    exact h.1)
  omega
def win (P Q : Int) : Nat := if P < Q then 0 else if P = Q then 1 else 2
def shr (F E : Nat → Bool) (mv : Nat → Int) (nf : Nat) : Nat := smN nf (fun i => smN (cnt 144 E) (fun j => win (mv (nth F 144 i)) (mv (nth E 144 j))))
theorem win_le (P Q : Int) : win P Q ≤ 2 := by
  unfold win
  split
  · omega
  · split <;> omega
theorem shr_le (F E : Nat → Bool) (mv : Nat → Int) (nf : Nat) : shr F E mv nf ≤ nf * (cnt 144 E * 2) := smN_le (fun i _ => smN_le (fun j _ => win_le _ _))
section MSh
variable {σ : Sto} {N S : Nat} {ar : Nat → Nat} {hid : Nat → Bool} {grp : Nat → Nat} {v w s : Nat} {wt : Nat → Int}
theorem wins_ok {p q : Nat} {P Q : Int} {Post : Int64 → Sto → Prop} (hp : p < 144) (hq : q < 144) (p1 : σ.2 14 p = lz (fT P)) (p2 : σ.2 15 p = lz (fB P)) (q1 : σ.2 14 q = lz (fT Q)) (q2 : σ.2 15 q = lz (fB Q)) (hP : P.natAbs < 2 ^ 63) (hQ : Q.natAbs < 2 ^ 63) (h : Post (lz (win P Q : Nat)) σ) : X8_wins_wp σ (nI p) (nI q) Post := by
  unfold X8_wins_wp
  unfold win at h
  refine compare_ok hp hq p1 p2 q1 q2 hP hQ (fun z => ?_) (fun z => ?_) (fun z => ?_)
  · rw [if_pos z] at h
    exact h
  · rw [if_neg (by omega), if_pos z] at h
    exact h
  · rw [if_neg (by omega), if_neg (by omega)] at h
    exact h
/-- what parted leaves: the lasting part, the tops and bottoms of all candidates, the found and the empty ones -/
def MPd (σ σ' : Sto) (N S : Nat) (ar : Nat → Nat) (hid : Nat → Bool) (P : Nat → Nat → Nat → Nat) (wt : Nat → Int) : Prop :=
  Ks σ σ' ∧ MCa σ' N S P ∧ (∀ q, q < 144 → isC N S (lead ar hid) q = true → σ'.2 14 q = lz (fT (mvp P wt q)) ∧ σ'.2 15 q = lz (fB (mvp P wt q))) ∧ σ'.1 0 28 = nI (cnt 144 (isF N S ar hid)) ∧ σ'.1 0 29 = nI (cnt 144 (isE N S ar hid)) ∧ (∀ i, i < cnt 144 (isF N S ar hid) → σ'.1 16 i = nI (nth (isF N S ar hid) 144 i)) ∧ (∀ i, i < cnt 144 (isE N S ar hid) → σ'.1 17 i = nI (nth (isE N S ar hid) 144 i))
set_option maxHeartbeats 1000000 in
theorem parted_ok {Post : Int32 → Sto → Prop} (h : MB σ.1 N S ar hid grp v w s) (hc : MCa σ N S (prt N S (lead ar hid) grp v w s)) (hw : MWt σ.1 wt)
    (hp : ∀ σ' : Sto, MPd σ σ' N S ar hid (prt N S (lead ar hid) grp v w s) wt → Post (b2i (decide (0 < cnt 144 (isF N S ar hid)) && decide (0 < cnt 144 (isE N S ar hid)))) σ') : X8_parted_wp σ Post := by
  have hN := h.1.2.2.1
  intro K hK
  have k0 : Ks σ (sI (sI σ 0 28 (0 : Int32)) 0 29 (0 : Int32)) := ⟨fun j _ h1 h2 => by rw [sI_n _ _ _ h2, sI_n _ _ _ h1], fun k h1 _ => by rw [sI_o _ _ _ (by omega), sI_o _ _ _ (by omega)], rfl, rfl, fun k h1 => by rw [sI_o _ _ _ (by omega), sI_o _ _ _ (by omega)]⟩
  have c0 : MCa (sI (sI σ 0 28 (0 : Int32)) 0 29 (0 : Int32)) N S (prt N S (lead ar hid) grp v w s) := hc.cong (by rw [sI_o _ _ _ (by decide), sI_o _ _ _ (by decide)]) rfl rfl
  refine rank_ok (h.ks k0) c0 (hw.ks k0) (fun τ kr ca _ e14 => ?_)
  have ks := k0.tr kr.ks
  have e28 : τ.1 0 28 = nI 0 := by
    rw [kr.1 0 (by decide) (by decide) (by decide) (by decide), sI_n _ _ _ (by decide), sI_e]
    exact nI_0.symm
  have e29 : τ.1 0 29 = nI 0 := by
    rw [kr.1 0 (by decide) (by decide) (by decide) (by decide), sI_e]
    exact nI_0.symm
  generalize prt N S (lead ar hid) grp v w s = P at *
  have loop : ∀ j p, p + j = 144 → ∀ τ : Sto, Ks σ τ → MCa τ N S P → (∀ q, q < 144 → isC N S (lead ar hid) q = true → τ.2 14 q = lz (fT (mvp P wt q)) ∧ τ.2 15 q = lz (fB (mvp P wt q))) → τ.1 0 28 = nI (cnt p (isF N S ar hid)) → τ.1 0 29 = nI (cnt p (isE N S ar hid)) → (∀ i, i < cnt p (isF N S ar hid) → τ.1 16 i = nI (nth (isF N S ar hid) 144 i)) → (∀ i, i < cnt p (isE N S ar hid) → τ.1 17 i = nI (nth (isE N S ar hid) 144 i)) → K τ (nI p) := by
    intro j
    induction j with
    | zero =>
      intro p hpj τ ks ca et e28 e29 e16 e17
      have hpj : p = 144 := hpj
      subst hpj
      have b1 := isF_le (N := N) (S := S) (ar := ar) (hid := hid) (Nat.le_refl 144)
      have b2 := isE_le (N := N) (S := S) (ar := ar) (hid := hid) (Nat.le_refl 144)
      have hp := hp τ ⟨ks, ca, et, e28, e29, e16, e17⟩
      apply hK
      unfold X8_parted_b17
      rw [e28, e29, le0 (by omega), le0 (by omega)]
      refine ⟨fun _ => ⟨fun z => ?_, fun z => ⟨fun y => ?_, fun y => ?_⟩⟩, fun hn => absurd (by decide) hn⟩
      · rw [decide_eq_false (show ¬ 0 < cnt 144 (isF N S ar hid) by omega), Bool.false_and] at hp
        exact hp
      · rw [decide_eq_false (show ¬ 0 < cnt 144 (isE N S ar hid) by omega), Bool.and_false] at hp
        exact hp
      · rw [decide_eq_true (show 0 < cnt 144 (isE N S ar hid) by omega), decide_eq_true (show 0 < cnt 144 (isF N S ar hid) by omega)] at hp
        exact hp
    | succ j ih =>
      intro p hpj τ ks ca et e28 e29 e16 e17
      have hτ := h.ks ks
      have mp : p % 12 < 12 := Nat.mod_lt _ (by decide)
      have pe : 12 * (p / 12) + p % 12 = p := Nat.div_add_mod p 12
      have skip : isC N S (lead ar hid) p = false → K τ (nI p + 1) := by
        intro hf
        have fF : isF N S ar hid p = false := by unfold isF; rw [hf]; rfl
        have fE : isE N S ar hid p = false := by unfold isE; rw [hf]; rfl
        have := ih (p + 1) (by omega) τ ks ca et (by rw [cnt_f fF]; exact e28) (by rw [cnt_f fE]; exact e29) (by rw [cnt_f fF]; exact e16) (by rw [cnt_f fE]; exact e17)
        rw [← nI_1] at this
        exact this
      apply hK
      unfold X8_parted_b17
      rw [rem12 (by omega), div12 (by omega)]
      refine ⟨fun hn => absurd hn (nI_ge (b := 144) (show p < 144 by omega) (by omega)), fun _ => ?_⟩
      refine isNode_ok hτ.1 (by omega) (b2i_fi _ (fun hb1 => ?_) (fun hb1 => skip (by unfold isC; rw [hb1]; rfl)))
      refine isNode_ok hτ.1 (by omega) (b2i_fi _ (fun hb2 => ?_) (fun hb2 => skip (by unfold isC; rw [hb2, Bool.and_false]; rfl)))
      refine isPair_ok hτ.1 (by omega) (by omega) (b2i_fi _ (fun hb3 => ?_) (fun hb3 => skip (by unfold isC; rw [hb3, Bool.false_and, Bool.and_false])))
      have hb1' := of_decide_eq_true hb1
      refine isCandidate_ok hτ.1 (by omega) (by omega) (b2i_fi _ (fun hb4 => ?_) (fun hb4 => skip (by unfold isC; rw [hb4, Bool.and_false, Bool.and_false])))
      have hC : isC N S (lead ar hid) p = true := by unfold isC; rw [hb1, hb2, hb3, hb4]; rfl
      refine isFound_ok hτ.1 (by omega) (by omega) ?_
      rw [pe]
      refine b2i_fi _ (fun hb5 => ?_) (fun hb5 => ?_)
      · have fF : isF N S ar hid p = true := by unfold isF; rw [hC, hb5]; rfl
        have fE : isE N S ar hid p = false := by unfold isE; rw [hC, hb5]; rfl
        have b1 := isF_le (N := N) (S := S) (ar := ar) (hid := hid) (p := p + 1) (by omega)
        rw [cnt_t fF] at b1
        rw [e28, nI_clamp (by omega), nI_1, nI_1]
        refine ⟨vp_in_nI (by omega) (by decide), ?_⟩
        refine ih (p + 1) (by omega) _ ⟨fun j h1 h2 h3 => by rw [sI_n _ _ _ h2, sI_o _ _ _ (by decide)]; exact ks.1 j h1 h2 h3, fun k h1 h2 => by rw [sI_o _ _ _ (by omega), sI_o _ _ _ (by omega)]; exact ks.2.1 k h1 h2, ks.2.2.1, ks.2.2.2.1, fun k h1 => by rw [sI_o _ _ _ (by omega), sI_o _ _ _ (by omega)]; exact ks.2.2.2.2 k h1⟩ (ca.cong (by rw [sI_o _ _ _ (by decide), sI_o _ _ _ (by decide)]) rfl rfl) et (by rw [sI_e, cnt_t fF]) (by rw [sI_n _ _ _ (by decide), sI_o _ _ _ (by decide), cnt_f fE]; exact e29) (fun i hi => ?_) (fun i hi => ?_)
        · rw [cnt_t fF] at hi
          rw [sI_o _ _ _ (by decide)]
          by_cases z : i = cnt p (isF N S ar hid)
          · subst z
            rw [sI_e, nth_cnt fF 144 (by omega)]
          · rw [sI_n _ _ _ z]
            exact e16 i (by omega)
        · rw [cnt_f fE] at hi
          rw [sI_o _ _ _ (by decide), sI_o _ _ _ (by decide)]
          exact e17 i hi
      · have fF : isF N S ar hid p = false := by unfold isF; rw [hC, hb5]; rfl
        have fE : isE N S ar hid p = true := by unfold isE; rw [hC, hb5]; rfl
        have b1 := isE_le (N := N) (S := S) (ar := ar) (hid := hid) (p := p + 1) (by omega)
        rw [cnt_t fE] at b1
        rw [e29, nI_clamp (by omega), nI_1, nI_1]
        refine ⟨vp_in_nI (by omega) (by decide), ?_⟩
        refine ih (p + 1) (by omega) _ ⟨fun j h1 h2 h3 => by rw [sI_n _ _ _ h3, sI_o _ _ _ (by decide)]; exact ks.1 j h1 h2 h3, fun k h1 h2 => by rw [sI_o _ _ _ (by omega), sI_o _ _ _ (by omega)]; exact ks.2.1 k h1 h2, ks.2.2.1, ks.2.2.2.1, fun k h1 => by rw [sI_o _ _ _ (by omega), sI_o _ _ _ (by omega)]; exact ks.2.2.2.2 k h1⟩ (ca.cong (by rw [sI_o _ _ _ (by decide), sI_o _ _ _ (by decide)]) rfl rfl) et (by rw [sI_n _ _ _ (by decide), sI_o _ _ _ (by decide), cnt_f fF]; exact e28) (by rw [sI_e, cnt_t fE]) (fun i hi => ?_) (fun i hi => ?_)
        · rw [cnt_f fF] at hi
          rw [sI_o _ _ _ (by decide), sI_o _ _ _ (by decide)]
          exact e16 i hi
        · rw [cnt_t fE] at hi
          rw [sI_o _ _ _ (by decide)]
          by_cases z : i = cnt p (isE N S ar hid)
          · subst z
            rw [sI_e, nth_cnt fE 144 (by omega)]
          · rw [sI_n _ _ _ z]
            exact e17 i (by omega)
  exact loop 144 0 rfl τ ks ca e14 e28 e29 (fun i hi => by simp [cnt] at hi) (fun i hi => by simp [cnt] at hi)
theorem nthF {i : Nat} (hi : i < cnt 144 (isF N S ar hid)) : nth (isF N S ar hid) 144 i < 144 ∧ isC N S (lead ar hid) (nth (isF N S ar hid) 144 i) = true := by
  obtain ⟨a, b, -⟩ := nth_spec 144 i hi
  unfold isF at a
  rw [Bool.and_eq_true] at a
  exact ⟨b, a.1⟩
theorem nthE {i : Nat} (hi : i < cnt 144 (isE N S ar hid)) : nth (isE N S ar hid) 144 i < 144 ∧ isC N S (lead ar hid) (nth (isE N S ar hid) 144 i) = true := by
  obtain ⟨a, b, -⟩ := nth_spec 144 i hi
  unfold isE at a
  rw [Bool.and_eq_true] at a
  exact ⟨b, a.1⟩
theorem shares_ok {Post : Int32 → Sto → Prop} (h : MB σ.1 N S ar hid grp v w s) (hc : MCa σ N S (prt N S (lead ar hid) grp v w s)) (hw : MWt σ.1 wt)
    (h0 : ¬ (0 < cnt 144 (isF N S ar hid) ∧ 0 < cnt 144 (isE N S ar hid)) → ∀ σ' : Sto, Ks σ σ' → MCa σ' N S (prt N S (lead ar hid) grp v w s) → Post (0 : Int32) σ')
    (h1 : 0 < cnt 144 (isF N S ar hid) → 0 < cnt 144 (isE N S ar hid) → ∀ (σ' : Sto) (a b : Nat), a = shr (isF N S ar hid) (isE N S ar hid) (mvp (prt N S (lead ar hid) grp v w s) wt) (cnt 144 (isF N S ar hid)) → b = 2 * cnt 144 (isF N S ar hid) * cnt 144 (isE N S ar hid) → Ks σ σ' → MCa σ' N S (prt N S (lead ar hid) grp v w s) → σ'.2 0 19 = lz (a / Nat.gcd a b : Nat) → σ'.2 0 20 = lz (b / Nat.gcd a b : Nat) → Post (1 : Int32) σ') : X8_shares_wp σ Post := by
  have hPl : ∀ k a b, prt N S (lead ar hid) grp v w s k a b ≤ 1404 * SC := prt_le h.1.2.2.1 h.2.2.1.2.1 h.2.2.1.2.2.2.1
  have hw2 : ∀ k, k < 11 → -99 ≤ wt k ∧ wt k ≤ 99 := fun k hk => (hw k hk).2
  have hmv : ∀ q, (mvp (prt N S (lead ar hid) grp v w s) wt q).natAbs < 2 ^ 63 := fun q => mixv_lt hPl hw2 _ _
  have b1 := isF_le (N := N) (S := S) (ar := ar) (hid := hid) (Nat.le_refl 144)
  have b2 := isE_le (N := N) (S := S) (ar := ar) (hid := hid) (Nat.le_refl 144)
  intro K13 K24 h13 h24
  refine parted_ok h hc hw (fun τ mp => ?_)
  obtain ⟨ks, ca, et, e28, e29, e16, e17⟩ := mp
  refine b2i_if _ (fun hb => ?_) (fun hb => h0 (fun q => ?_) τ ks ca)
  · rw [Bool.and_eq_true, decide_eq_true_eq, decide_eq_true_eq] at hb
    have h1 := h1 hb.1 hb.2
    generalize prt N S (lead ar hid) grp v w s = P at *
    generalize hF : isF N S ar hid = F at *
    generalize hE : isE N S ar hid = E at *
    generalize mvp P wt = mv at *
    rw [lz_0]
    refine down (fun i => K13 τ (lz (shr F E mv i : Nat)) (nI i)) (cnt 144 F) ?_ (fun i hi ih => ?_)
    · apply h13
      unfold X8_shares_b13
      rw [e28, e29, nI_lz (by omega), nI_lz (by omega), lz_2, lz_mul, lz_mul, show (2 : Int) * ((cnt 144 F : Nat) : Int) * ((cnt 144 E : Nat) : Int) = ((2 * cnt 144 F * cnt 144 E : Nat) : Int) by rw [Int.natCast_mul, Int.natCast_mul]; rfl]
      refine pk_le (cnt 144 F) (cnt 144 F) (fun _ => ?_) (fun hc => by omega)
      have s1 := shr_le F E mv (cnt 144 F)
      have s2 : cnt 144 F * (cnt 144 E * 2) ≤ 132 * (132 * 2) := Nat.mul_le_mul b1 (Nat.mul_le_mul_right 2 b2)
      have s3 : 2 * cnt 144 F * cnt 144 E ≤ 2 * 132 * 132 := Nat.mul_le_mul (Nat.mul_le_mul_left 2 b1) b2
      have s4 : 0 < 2 * cnt 144 F * cnt 144 E := Nat.mul_pos (Nat.mul_pos (by decide) hb.1) hb.2
      exact makeG_ok (by omega) (by omega) s4 (h1 _ _ _ rfl rfl (ks.tr (Ks.tb _ _ _)) (ca.tbk _ _) (tb_t _ _ _) (tb_b _ _ _))
    · apply h13
      unfold X8_shares_b13
      rw [e28]
      refine pk_le (cnt 144 F) i (fun hc => by omega) (fun hc => ?_)
      refine down (fun j => K24 τ (lz ((shr F E mv i + smN j (fun j => win (mv (nth F 144 i)) (mv (nth E 144 j))) : Nat) : Int)) (nI i) (nI j)) (cnt 144 E) ?_ (fun j hj ih2 => ?_)
      · apply h24
        unfold X8_shares_b24
        rw [e29, nI_1]
        exact pk_le (cnt 144 E) (cnt 144 E) (fun _ => ih) (fun hc => by omega)
      · apply h24
        unfold X8_shares_b24
        rw [e29]
        refine pk_le (cnt 144 E) j (fun hc => by omega) (fun hc => ?_)
        refine ⟨vp_in_nI (by omega) (by decide), vp_in_nI (by omega) (by decide), ?_⟩
        rw [nI_clamp (by omega), nI_clamp (by omega), e16 i hi, e17 j hj]
        have nf := nthF (N := N) (S := S) (ar := ar) (hid := hid) (i := i) (by rw [hF]; exact hi)
        have ne := nthE (N := N) (S := S) (ar := ar) (hid := hid) (i := j) (by rw [hE]; exact hj)
        rw [hF] at nf
        rw [hE] at ne
        have t1 := et _ nf.1 nf.2
        have t2 := et _ ne.1 ne.2
        refine wins_ok nf.1 ne.1 t1.1 t1.2 t2.1 t2.2 (hmv _) (hmv _) ?_
        rw [lz_add, nI_1, ← Int.natCast_add]
        rw [smN_s, ← Nat.add_assoc] at ih2
        exact ih2
  · rw [decide_eq_true q.1, decide_eq_true q.2] at hb
    cases hb
end MSh
