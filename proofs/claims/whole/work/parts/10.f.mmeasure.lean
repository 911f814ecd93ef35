/-! the reference's measure(a, b, k): top and bottom show the measure -/
theorem fr_2 {σ σ' : Sto} (P : Int) (h : σ'.2 = σ.2) : (fr σ' P).2 = (fr σ P).2 := by
  unfold fr tb sJ
  rw [h]
theorem lzk {k j : Nat} (hk : k ≤ 11) (hj : j ≤ 11) (e : nI k = nI j) : k = j := (nI_eq (by omega) (by omega)).mp e
section MQ
variable {σ : Sto} {N S : Nat} {ar : Nat → Nat} {hid : Nat → Bool} {grp : Nat → Nat} {v w s : Nat}
theorem inB_lt {le : Nat → Nat → Bool} {b : Nat} (hb : b < N) (hir : ∀ x, x < 12 → le x x = false) (hN : N ≤ 12) : cnt N (fun x => inB N S le x b) < N := by
  refine cnt_lt hb ?_
  show inB N S le b b = false
  unfold inB
  split
  · exact hir b (by omega)
  · rw [decide_eq_false (by simp), Bool.false_and]
theorem stpA_le (R : Nat → Bool) : ∀ f d, stpA R f d ≤ d + f
  | 0, d => Nat.zero_le _
  | f + 1, d => by
    unfold stpA
    split
    · omega
    · have := stpA_le R f (d + 1)
      omega
theorem stp_le (le : Nat → Nat → Bool) (a b : Nat) : stp N le a b ≤ 1 + (N - 1) := stpA_le _ _ _
theorem wk2_le (le : Nat → Nat → Bool) (a b : Nat) : wk2 N le a b ≤ N := cnt_le _ _
theorem wk3_le (le : Nat → Nat → Bool) (a b : Nat) : wk3 N le a b ≤ N * N := smN_le (fun i _ => by
  show (if le a i then cnt N (fun y => le i y && le y b) else 0) ≤ N
  split
  · exact cnt_le _ _
  · exact Nat.zero_le _)
set_option maxHeartbeats 1000000 in
theorem measure_ok {a b k : Nat} {Post : Sto → Prop} (h : MNet σ.1 N S ar hid) (hg : MGrp σ.1 grp) (hpar : MPar σ.1 v w s) (hir : ∀ x, x < 12 → lead ar hid x x = false) (ha : a < N) (hb : b < N) (hk : k ≤ 10) (hp : ∀ σ' : Sto, TS σ σ' (prt N S (lead ar hid) grp v w s k a b : Nat) → Post σ') : X8_measure_wp σ (nI a) (nI b) (nI k) Post := by
  have hN := h.2.2.1
  have hsc := SC_lt
  intro K12 K254 h12 h254
  have hl : ∀ {P : Int} {x y : Nat} {Post : Int32 → Sto → Prop}, x < 12 → y < 12 → Post (b2i (lead ar hid x y)) (fr σ P) → X8_leads_wp (fr σ P) (nI x) (nI y) Post := fun hx hy hp => leads_ok (σ := fr σ _) h hx hy hp
  have hou : ∀ {P : Int} {x : Nat} {Post : Int32 → Sto → Prop}, x < 12 → Post (nI (cnt N (lead ar hid x))) (fr σ P) → X8_outs_wp (fr σ P) (nI x) Post := fun hx hp => outs_ok (σ := fr σ _) h hx hp
  have hinB : ∀ {P : Int} {x y : Nat} {Post : Int32 → Sto → Prop}, x < 12 → y < 12 → Post (b2i (inB N S (lead ar hid) x y)) (fr σ P) → X8_isInB_wp (fr σ P) (nI x) (nI y) Post := fun hx hy hp => isInB_ok (σ := fr σ _) h hx hy hp
  rw [lz_0]
  refine down (fun i => K12 σ (lz (cnt i (fun x => lead ar hid a x && inB N S (lead ar hid) x b) : Nat)) (lz (cnt i (lead ar hid a) : Nat)) (lz (cnt i (fun x => inB N S (lead ar hid) x b) : Nat)) (nI i)) N ?_ (fun i hi ih => ?_)
  · have cM := cnt_le N (fun x => lead ar hid a x && inB N S (lead ar hid) x b)
    have cA : cnt N (lead ar hid a) < N := cnt_lt ha (hir a (by omega))
    have cB := inB_lt (S := S) hb hir hN
    have cor := cnt_or N (lead ar hid a) (fun x => inB N S (lead ar hid) x b)
    have cU := cnt_le N (fun x => lead ar hid a x || inB N S (lead ar hid) x b)
    apply h12
    unfold X8_measure_b12
    rw [h.1]
    refine pk_le N N (fun _ => ?_) (fun hc => by omega)
    refine ⟨fun e => ?_, fun e => ?_, fun e => ?_, fun e => ?_, fun e => ?_, fun e => ?_, fun e => ?_, fun e => ?_, fun e => ?_, fun e => ?_, fun e0 e1 e2 e3 e4 e5 e6 e7 e8 e9 => ?_⟩
    · obtain rfl := lzk (j := 0) (by omega) (by omega) e
      exact makeSC_ok (by omega) (hp _ (TS.fr σ _))
    · obtain rfl := lzk (j := 1) (by omega) (by omega) e
      rw [lz_add, lz_sub, show ((cnt N (lead ar hid a) : Nat) : Int) + ((cnt N (fun x => inB N S (lead ar hid) x b) : Nat) : Int) - ((cnt N (fun x => lead ar hid a x && inB N S (lead ar hid) x b) : Nat) : Int) = ((cnt N (lead ar hid a) + cnt N (fun x => inB N S (lead ar hid) x b) - cnt N (fun x => lead ar hid a x && inB N S (lead ar hid) x b) : Nat) : Int) by omega]
      exact makedv_ok (by omega) (fun q => dvd22 _ (by omega) q) (hp _ (TS.fr σ _))
    · obtain rfl := lzk (j := 2) (by omega) (by omega) e
      rw [lz_2, lz_mul, lz_add, show (2 : Int) * ((cnt N (fun x => lead ar hid a x && inB N S (lead ar hid) x b) : Nat) : Int) = ((2 * cnt N (fun x => lead ar hid a x && inB N S (lead ar hid) x b) : Nat) : Int) by omega, ← Int.natCast_add]
      exact makedv_ok (by omega) (fun q => dvd22 _ (by omega) q) (hp _ (TS.fr σ _))
    · obtain rfl := lzk (j := 3) (by omega) (by omega) e
      rw [lg_cmp_ge, lz_le (by omega) (by omega) (by omega) (by omega)]
      have hp : ∀ σ' : Sto, TS σ σ' (dv (cnt N (fun x => lead ar hid a x && inB N S (lead ar hid) x b)) (min (cnt N (lead ar hid a)) (cnt N (fun x => inB N S (lead ar hid) x b))) : Nat) → Post σ' := hp
      refine ⟨fun hc => ?_, fun hc => ?_⟩
      · rw [Nat.min_eq_right (by omega)] at hp
        exact makedv_ok (by omega) (fun q => dvd22 _ (by omega) q) (hp _ (TS.fr σ _))
      · rw [Nat.min_eq_left (by omega)] at hp
        exact makedv_ok (by omega) (fun q => dvd22 _ (by omega) q) (hp _ (TS.fr σ _))
    · obtain rfl := lzk (j := 4) (by omega) (by omega) e
      rw [lg_cmp_le, lz_le (by omega) (by omega) (by omega) (by omega)]
      have hp : ∀ σ' : Sto, TS σ σ' (dv (cnt N (fun x => lead ar hid a x && inB N S (lead ar hid) x b)) (max (cnt N (lead ar hid a)) (cnt N (fun x => inB N S (lead ar hid) x b))) : Nat) → Post σ' := hp
      refine ⟨fun hc => ?_, fun hc => ?_⟩
      · rw [Nat.max_eq_right (by omega)] at hp
        exact makedv_ok (by omega) (fun q => dvd22 _ (by omega) q) (hp _ (TS.fr σ _))
      · rw [Nat.max_eq_left (by omega)] at hp
        exact makedv_ok (by omega) (fun q => dvd22 _ (by omega) q) (hp _ (TS.fr σ _))
    · obtain rfl := lzk (j := 5) (by omega) (by omega) e
      refine make00_ok ?_
      refine down (fun i => K254 (fr σ ((smN i (fun x => if lead ar hid a x && inB N S (lead ar hid) x b then dv 1 (cnt N (lead ar hid x)) else 0) : Nat) : Int)) (nI i)) N ?_ (fun i hi ih => ?_)
      · apply h254
        unfold X8_measure_b254
        rw [fr_1, h.1]
        exact pk_le N N (fun _ => hp _ (TS.fr σ _)) (fun hc => by omega)
      · apply h254
        unfold X8_measure_b254
        rw [fr_1, h.1]
        refine pk_le N i (fun hc => by omega) (fun hc => ?_)
        rw [smN_s, ← nI_1] at ih
        refine hl (by omega) (by omega) (b2i_fi _ (fun hb1 => ?_) (fun hb1 => ?_))
        · refine hinB (by omega) (by omega) (b2i_fi _ (fun hb2 => ?_) (fun hb2 => ?_))
          · rw [hb1, hb2, Bool.and_self, if_pos rfl] at ih
            have ci := cnt_le N (lead ar hid i)
            refine hou (by omega) ?_
            rw [le0 (by omega)]
            refine ⟨fun hz => ?_, fun hz => hou (by omega) ?_⟩
            · rw [hz] at ih
              exact ih
            · rw [nI_lz (by omega)]
              refine plus1_ok (dvd22 _ (by omega) (by omega)) ?_ ih
              have := smN_le (n := i) (b := SC) (f := fun x => if lead ar hid a x && inB N S (lead ar hid) x b then dv 1 (cnt N (lead ar hid x)) else 0) (fun j _ => by
                show (if lead ar hid a j && inB N S (lead ar hid) j b then dv 1 (cnt N (lead ar hid j)) else 0) ≤ SC
                split
                · exact Nat.le_trans (dv_le _ _) (by omega)
                · exact Nat.zero_le _)
              have : i * SC ≤ 12 * SC := Nat.mul_le_mul_right _ (by omega)
              omega
          · rw [hb1, hb2, if_neg (by decide), Nat.add_zero] at ih
            exact ih
        · rw [hb1, Bool.false_and, if_neg (by decide), Nat.add_zero] at ih
          exact ih
    · obtain rfl := lzk (j := 6) (by omega) (by omega) e
      refine outs_ok h (by omega) (ins_ok h (by omega) ?_)
      have c1 := cnt_le N (lead ar hid a)
      have c2 := cnt_le N (fun y => lead ar hid y b)
      have c3 := Nat.mul_le_mul c1 c2
      have c4 : N * N ≤ 12 * 12 := Nat.mul_le_mul hN hN
      rw [nI_lz (by omega), nI_lz (by omega), lz_mul, ← Int.natCast_mul]
      exact makeSC_ok (by omega) (hp _ (TS.fr σ _))
    · obtain rfl := lzk (j := 7) (by omega) (by omega) e
      refine walks_ok h hpar (by omega) (by omega) ?_
      have c1 := wk2_le (N := N) (lead ar hid) a b
      have c2 := wk3_le (N := N) (lead ar hid) a b
      have c4 : N * N ≤ 12 * 12 := Nat.mul_le_mul hN hN
      have c5 : v * wk2 N (lead ar hid) a b ≤ 9 * 12 := Nat.mul_le_mul hpar.2.1 (by omega)
      have c6 : w * wk3 N (lead ar hid) a b ≤ 9 * 144 := Nat.mul_le_mul hpar.2.2.2.1 (by omega)
      rw [nI_lz (by omega)]
      exact makeSC_ok (by omega) (hp _ (TS.fr σ _))
    · obtain rfl := lzk (j := 8) (by omega) (by omega) e
      refine steps_ok h ha hb (fun σ' e1 e2 => ?_)
      have c1 := stp_le (N := N) (lead ar hid) a b
      rw [nI_lz (by omega), lz_1]
      exact makedv_ok (m := 1) (by omega) (fun q => dvd22 _ (by omega) q) (hp _ ⟨fr_2 _ e1, e2⟩)
    · obtain rfl := lzk (j := 9) (by omega) (by omega) e
      exact wander_ok (grp := grp) h hpar ha hb (hp _ (TS.fr σ _))
    · have hk10 : k = 10 := by
        rcases (show k = 0 ∨ k = 1 ∨ k = 2 ∨ k = 3 ∨ k = 4 ∨ k = 5 ∨ k = 6 ∨ k = 7 ∨ k = 8 ∨ k = 9 ∨ k = 10 by omega) with q | q | q | q | q | q | q | q | q | q | q
        · exact absurd (by rw [q]; rfl) e0
        · exact absurd (by rw [q]; rfl) e1
        · exact absurd (by rw [q]; rfl) e2
        · exact absurd (by rw [q]; rfl) e3
        · exact absurd (by rw [q]; rfl) e4
        · exact absurd (by rw [q]; rfl) e5
        · exact absurd (by rw [q]; rfl) e6
        · exact absurd (by rw [q]; rfl) e7
        · exact absurd (by rw [q]; rfl) e8
        · exact absurd (by rw [q]; rfl) e9
        · exact q
      subst hk10
      exact grouped_ok h hg ha hb (hp _ (TS.fr σ _))
  · apply h12
    unfold X8_measure_b12
    rw [h.1]
    refine pk_le N i (fun hc => by omega) (fun hc => ?_)
    refine leads_ok h (by omega) (by omega) (isInB_ok h (by omega) (by omega) ?_)
    rw [← nI_1] at ih
    cases h1 : lead ar hid a i <;> cases h2 : inB N S (lead ar hid) i b
    · rw [cnt_f (f := lead ar hid a) h1, cnt_f (f := fun x => inB N S (lead ar hid) x b) h2, cnt_f (f := fun x => lead ar hid a x && inB N S (lead ar hid) x b) (by rw [h1, h2]; rfl)] at ih
      simp [b2iT, b2iF, lz_p0, ih]
    · rw [cnt_f (f := lead ar hid a) h1, cnt_t (f := fun x => inB N S (lead ar hid) x b) h2, cnt_f (f := fun x => lead ar hid a x && inB N S (lead ar hid) x b) (by rw [h1, h2]; rfl), ← lz_p1] at ih
      simp [b2iT, b2iF, lz_p0, ih]
    · rw [cnt_t (f := lead ar hid a) h1, cnt_f (f := fun x => inB N S (lead ar hid) x b) h2, cnt_f (f := fun x => lead ar hid a x && inB N S (lead ar hid) x b) (by rw [h1, h2]; rfl), ← lz_p1] at ih
      simp [b2iT, b2iF, lz_p0, ih]
    · rw [cnt_t (f := lead ar hid a) h1, cnt_t (f := fun x => inB N S (lead ar hid) x b) h2, cnt_t (f := fun x => lead ar hid a x && inB N S (lead ar hid) x b) (by rw [h1, h2]; rfl), ← lz_p1, ← lz_p1, ← lz_p1] at ih
      simp [b2iT, b2iF, lz_p0, ih]
end MQ
