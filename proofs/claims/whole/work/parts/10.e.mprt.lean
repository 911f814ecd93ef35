/-! the measures as numbers over SC, and the reference's measure -/
def dv (m d : Nat) : Nat := if d = 0 then 0 else m * (SC / d)
def prt (N S : Nat) (le : Nat → Nat → Bool) (grp : Nat → Nat) (v w s k a b : Nat) : Nat :=
  match k with
  | 0 => cnt N (fun x => le a x && inB N S le x b) * SC
  | 1 => dv (cnt N (fun x => le a x && inB N S le x b)) (cnt N (le a) + cnt N (fun x => inB N S le x b) - cnt N (fun x => le a x && inB N S le x b))
  | 2 => dv (2 * cnt N (fun x => le a x && inB N S le x b)) (cnt N (le a) + cnt N (fun x => inB N S le x b))
  | 3 => dv (cnt N (fun x => le a x && inB N S le x b)) (min (cnt N (le a)) (cnt N (fun x => inB N S le x b)))
  | 4 => dv (cnt N (fun x => le a x && inB N S le x b)) (max (cnt N (le a)) (cnt N (fun x => inB N S le x b)))
  | 5 => smN N (fun x => if le a x && inB N S le x b then dv 1 (cnt N (le x)) else 0)
  | 6 => cnt N (le a) * cnt N (fun y => le y b) * SC
  | 7 => (v * wk2 N le a b + w * wk3 N le a b) * SC
  | 8 => dv 1 (stp N le a b)
  | 9 => if s = 1 then dv (if le a b then 1 else 0) (cnt N (le a)) else smN N (fun x => if le a x && le x b then dv 1 (cnt N (le a) * cnt N (le x)) else 0)
  | _ => dv (smN N (fun x => cnt N (fun y => le x y && (decide (grp x = grp a) && decide (grp y = grp b))))) (cnt N (fun x => decide (grp x = grp a)) * cnt N (fun x => decide (grp x = grp b)))
theorem dvd22 : ∀ d, d ≤ 22 → 0 < d → d ∣ SC := by decide +kernel
theorem dvd12 : ∀ d, d ≤ 12 → ∀ e, e ≤ 12 → 0 < d → 0 < e → d * e ∣ SC := by decide +kernel
theorem dv_le (m d : Nat) : dv m d ≤ m * SC := by
  unfold dv
  split
  · exact Nat.zero_le _
  · exact Nat.mul_le_mul_left m (Nat.div_le_self _ _)
theorem lz_p0 (z : Int) : lz z + 0 = lz z := by
  rw [lz_0, lz_add, Int.add_zero]
theorem lz_p1 (n : Nat) : lz n + 1 = lz ((n + 1 : Nat) : Int) := by
  rw [lz_1, lz_add]
  rfl
theorem cnt_pos {n : Nat} {f : Nat → Bool} {i : Nat} (hi : i < n) (h : f i = true) : 0 < cnt n f := by
  induction n with
  | zero => omega
  | succ n ih =>
    by_cases e : i = n
    · subst e
      rw [cnt_t h]
      omega
    · have := ih (by omega)
      unfold cnt
      omega
theorem cnt_or (n : Nat) (f g : Nat → Bool) : cnt n f + cnt n g = cnt n (fun x => f x || g x) + cnt n (fun x => f x && g x) := by
  induction n with
  | zero => rfl
  | succ n ih =>
    show cnt n f + (if f n then 1 else 0) + (cnt n g + (if g n then 1 else 0)) = cnt n (fun x => f x || g x) + (if (f n || g n) then 1 else 0) + (cnt n (fun x => f x && g x) + (if (f n && g n) then 1 else 0))
    cases f n <;> cases g n <;> simp <;> omega
theorem cnt_lt {n : Nat} {f : Nat → Bool} {i : Nat} (hi : i < n) (h : f i = false) : cnt n f < n := by
  induction n with
  | zero => omega
  | succ n ih =>
    by_cases e : i = n
    · subst e
      rw [cnt_f h]
      have := cnt_le i f
      omega
    · have := ih (by omega)
      unfold cnt
      split <;> omega
def TS (σ σ' : Sto) (P : Int) : Prop := σ'.2 = (fr σ P).2 ∧ ∀ k, k ≠ 11 → k ≠ 12 → σ'.1 k = σ.1 k
theorem TS.fr (σ : Sto) (P : Int) : TS σ (fr σ P) P := ⟨rfl, fun _ _ _ => rfl⟩
theorem makedv_ok {σ : Sto} {m d : Nat} {Post : Sto → Prop} (hm : m < 2 ^ 63) (hd : 0 < d → d ∣ SC) (h : Post (fr σ (dv m d : Nat))) : X8_make_wp σ (lz m) (lz d) Post := by
  unfold dv at h
  by_cases e : d = 0
  · subst e
    rw [if_pos rfl] at h
    exact make0_ok h
  · rw [if_neg e, Int.natCast_mul] at h
    exact make_ok (by omega) (by omega) (hd (by omega)) h
theorem makeSC_ok {σ : Sto} {m : Nat} {Post : Sto → Prop} (hm : m < 2 ^ 63) (h : Post (fr σ ((m * SC : Nat) : Int))) : X8_make_wp σ (lz m) (1 : Int64) Post := by
  rw [lz_1]
  refine make_ok (b := 1) (by omega) (by omega) (Nat.one_dvd _) ?_
  rw [Nat.div_one, ← Int.natCast_mul]
  exact h
theorem make00_ok {σ : Sto} {Post : Sto → Prop} (h : Post (fr σ 0)) : X8_make_wp σ (0 : Int64) (1 : Int64) Post := by
  rw [lz_0, lz_1]
  refine make_ok (a := 0) (b := 1) (by omega) (by omega) (Nat.one_dvd _) ?_
  rw [Int.zero_mul]
  exact h
theorem plus1_ok {σ : Sto} {P d : Nat} {Post : Sto → Prop} (hd : d ∣ SC) (hP : P < 2 ^ 62) (h : Post (fr σ ((P + dv 1 d : Nat) : Int))) : X8_plus_wp (fr σ (P : Nat)) (1 : Int64) (lz d) Post := by
  have hd0 : 0 < d := Nat.pos_of_dvd_of_pos hd SC_pos
  rw [lz_1]
  have hs := SC_lt
  have := Nat.div_le_self SC d
  refine plus_ok (a := 1) hd (by rw [show Int.natAbs 1 = 1 from rfl, Nat.one_mul, Int.natAbs_natCast]; omega) ?_
  unfold dv at h
  rw [if_neg (by omega), Nat.one_mul, Int.natCast_add] at h
  rw [Int.one_mul]
  exact h
section MP
variable {σ : Sto} {N S : Nat} {ar : Nat → Nat} {hid : Nat → Bool} {grp : Nat → Nat} {v w s : Nat}
theorem wander_ok {a b : Nat} {Post : Sto → Prop} (h : MNet σ.1 N S ar hid) (hpar : MPar σ.1 v w s) (ha : a < N) (hb : b < N) (hp : Post (fr σ (prt N S (lead ar hid) grp v w s 9 a b : Nat))) : X8_wander_wp σ (nI a) (nI b) Post := by
  have hN := h.2.2.1
  have hsc := SC_lt
  intro K hK
  generalize hle : lead ar hid = le at *
  have hl : ∀ {P : Int} {x y : Nat} {Post : Int32 → Sto → Prop}, x < 12 → y < 12 → Post (b2i (le x y)) (fr σ P) → X8_leads_wp (fr σ P) (nI x) (nI y) Post := fun hx hy hp => leads_ok (σ := fr σ _) h hx hy (by rw [hle]; exact hp)
  have hou : ∀ {P : Int} {x : Nat} {Post : Int32 → Sto → Prop}, x < 12 → Post (nI (cnt N (le x))) (fr σ P) → X8_outs_wp (fr σ P) (nI x) Post := fun hx hp => outs_ok (σ := fr σ _) h hx (by rw [hle]; exact hp)
  have ca := cnt_le N (le a)
  have hp : Post (fr σ ((if s = 1 then dv (if le a b then 1 else 0) (cnt N (le a)) else smN N (fun x => if le a x && le x b then dv 1 (cnt N (le a) * cnt N (le x)) else 0) : Nat) : Int)) := hp
  rw [hpar.2.2.2.2.1]
  refine ⟨fun hc => ?_, fun hc => ?_⟩
  · have s1 : ¬ s = 1 := fun q => hc (by rw [q]; rfl)
    rw [if_neg s1] at hp
    refine make00_ok ?_
    refine down (fun i => K (fr σ ((smN i (fun x => if le a x && le x b then dv 1 (cnt N (le a) * cnt N (le x)) else 0) : Nat) : Int)) (nI i)) N ?_ (fun i hi ih => ?_)
    · apply hK
      unfold X8_wander_b41
      rw [fr_1, h.1]
      exact pk_le N N (fun _ => hp) (fun hc => by omega)
    · apply hK
      unfold X8_wander_b41
      rw [fr_1, h.1]
      refine pk_le N i (fun hc => by omega) (fun hc => ?_)
      rw [smN_s, ← nI_1] at ih
      refine hl (by omega) (by omega) (b2i_fi _ (fun hb1 => ?_) (fun hb1 => ?_))
      · refine hl (by omega) (by omega) (b2i_fi _ (fun hb2 => ?_) (fun hb2 => ?_))
        · rw [hb1, hb2, Bool.and_self, if_pos rfl] at ih
          refine hou (by omega) (hou (by omega) ?_)
          have ci := cnt_le N (le i)
          rw [nI_lz (by omega), nI_lz (by omega), lz_mul, ← Int.natCast_mul]
          refine plus1_ok (dvd12 _ (by omega) _ (by omega) (cnt_pos hi hb1) (cnt_pos hb hb2)) ?_ ih
          have := smN_le (n := i) (b := SC) (f := fun x => if le a x && le x b then dv 1 (cnt N (le a) * cnt N (le x)) else 0) (fun j _ => by
            show (if le a j && le j b then dv 1 (cnt N (le a) * cnt N (le j)) else 0) ≤ SC
            split
            · exact Nat.le_trans (dv_le _ _) (by omega)
            · exact Nat.zero_le _)
          have : i * SC ≤ 12 * SC := Nat.mul_le_mul_right _ (by omega)
          omega
        · rw [hb1, hb2, if_neg (by decide), Nat.add_zero] at ih
          exact ih
      · rw [hb1, Bool.false_and, if_neg (by decide), Nat.add_zero] at ih
        exact ih
  · have s1 : s = 1 := by
      rcases hpar.2.2.2.2.2 with q | q
      · exact q
      · rw [q] at hc
        exact absurd hc (by decide)
    rw [if_pos s1] at hp
    refine leads_ok h (by omega) (by omega) ?_
    rw [hle]
    refine b2i_fi _ (fun hb1 => ?_) (fun hb1 => ?_)
    · refine outs_ok h (by omega) ?_
      rw [hle, nI_lz (by omega), lz_1]
      rw [hb1, if_pos rfl] at hp
      exact makedv_ok (m := 1) (by omega) (fun q => dvd22 _ (by omega) q) hp
    · refine outs_ok h (by omega) ?_
      rw [hle, nI_lz (by omega), lz_0]
      rw [hb1, if_neg (by decide)] at hp
      exact makedv_ok (m := 0) (by omega) (fun q => dvd22 _ (by omega) q) hp
theorem grouped_ok {a b : Nat} {Post : Sto → Prop} (h : MNet σ.1 N S ar hid) (hg : MGrp σ.1 grp) (ha : a < N) (hb : b < N) (hp : Post (fr σ (dv (smN N (fun x => cnt N (fun y => lead ar hid x y && (decide (grp x = grp a) && decide (grp y = grp b))))) (cnt N (fun x => decide (grp x = grp a)) * cnt N (fun x => decide (grp x = grp b))) : Nat))) : X8_grouped_wp σ (nI a) (nI b) Post := by
  have hN := h.2.2.1
  have hsc := SC_lt
  intro K27 K82 h27 h82
  generalize hle : lead ar hid = le at *
  have gl : ∀ x, x < 12 → grp x < 2 ^ 31 := fun x hx => by have := (hg x hx).2; omega
  refine ⟨vp_in_nI (by omega) (by decide), vp_in_nI (by omega) (by decide), ?_⟩
  rw [nI_clamp (by omega), nI_clamp (by omega), (hg a (by omega)).1, (hg b (by omega)).1, lz_0]
  refine down (fun i => K27 σ (nI (grp a)) (nI (grp b)) (lz (smN i (fun x => cnt N (fun y => le x y && (decide (grp x = grp a) && decide (grp y = grp b)))) : Nat)) (lz (cnt i (fun x => decide (grp x = grp a)) : Nat)) (lz (cnt i (fun x => decide (grp x = grp b)) : Nat)) (nI i)) N ?_ (fun i hi ih => ?_)
  · apply h27
    unfold X8_grouped_b27
    rw [h.1]
    refine pk_le N N (fun _ => ?_) (fun hc => by omega)
    rw [lz_mul, ← Int.natCast_mul]
    have c1 := cnt_le N (fun x => decide (grp x = grp a))
    have c2 := cnt_le N (fun x => decide (grp x = grp b))
    have c3 := smN_le (n := N) (b := 12) (f := fun x => cnt N (fun y => le x y && (decide (grp x = grp a) && decide (grp y = grp b)))) (fun j _ => Nat.le_trans (cnt_le N _) hN)
    refine makedv_ok (by omega) (fun q => ?_) hp
    exact dvd12 _ (by omega) _ (by omega) (Nat.pos_of_ne_zero (fun e => by rw [e, Nat.zero_mul] at q; omega)) (Nat.pos_of_ne_zero (fun e => by rw [e, Nat.mul_zero] at q; omega))
  · apply h27
    unfold X8_grouped_b27
    rw [h.1]
    refine pk_le N i (fun hc => by omega) (fun hc => ⟨vp_in_nI (by omega) (by decide), ?_⟩)
    rw [nI_clamp (by omega), (hg i (by omega)).1, nI_eq (gl i (by omega)) (gl a (by omega)), nI_eq (gl i (by omega)) (gl b (by omega))]
    rw [smN_s, ← nI_1] at ih
    -- the inner loop
    have inner : ∀ (L R : Int64), K27 σ (nI (grp a)) (nI (grp b)) (lz ((smN i (fun x => cnt N (fun y => le x y && (decide (grp x = grp a) && decide (grp y = grp b)))) + cnt N (fun y => le i y && (decide (grp i = grp a) && decide (grp y = grp b))) : Nat) : Int)) L R (nI i + 1) → K82 σ (nI (grp a)) (nI (grp b)) (lz (smN i (fun x => cnt N (fun y => le x y && (decide (grp x = grp a) && decide (grp y = grp b)))) : Nat)) L R (nI i) 0 := by
      intro L R ht
      generalize smN i (fun x => cnt N (fun y => le x y && (decide (grp x = grp a) && decide (grp y = grp b)))) = q at ht ⊢
      refine down (fun j => K82 σ (nI (grp a)) (nI (grp b)) (lz ((q + cnt j (fun y => le i y && (decide (grp i = grp a) && decide (grp y = grp b))) : Nat) : Int)) L R (nI i) (nI j)) N ?_ (fun j hj ih2 => ?_)
      · apply h82
        unfold X8_grouped_b82
        rw [h.1]
        exact pk_le N N (fun _ => ht) (fun hc => by omega)
      · apply h82
        unfold X8_grouped_b82
        rw [h.1]
        refine pk_le N j (fun hc => by omega) (fun hc => ?_)
        rw [← nI_1] at ih2
        refine leads_ok h (by omega) (by omega) ?_
        rw [hle]
        refine b2i_fi _ (fun hb2 => ⟨vp_in_nI (by omega) (by decide), ?_⟩) (fun hb2 => ?_)
        · rw [nI_clamp (by omega), (hg i (by omega)).1, nI_eq (gl i (by omega)) (gl a (by omega))]
          refine ⟨fun hne => ?_, fun he => ⟨vp_in_nI (by omega) (by decide), ?_⟩⟩
          · rw [cnt_f (by rw [decide_eq_false hne, Bool.false_and, Bool.and_false])] at ih2
            rw [lz_p0]
            exact ih2
          · rw [nI_clamp (by omega), (hg j (by omega)).1, nI_eq (gl j (by omega)) (gl b (by omega))]
            refine ⟨fun hne => ?_, fun he2 => ?_⟩
            · rw [cnt_f (by rw [decide_eq_false hne, Bool.and_false, Bool.and_false])] at ih2
              rw [lz_p0]
              exact ih2
            · rw [cnt_t (by rw [decide_eq_true he, decide_eq_true he2, hb2]; rfl), ← Nat.add_assoc] at ih2
              rw [lz_p1]
              exact ih2
        · rw [cnt_f (by rw [hb2]; rfl)] at ih2
          rw [lz_p0]
          exact ih2
    refine ⟨fun hne => ⟨vp_in_nI (by omega) (by decide), fun hne2 => ?_, fun he2 => ?_⟩, fun he => ⟨vp_in_nI (by omega) (by decide), fun hne2 => ?_, fun he2 => ?_⟩⟩
    · rw [cnt_f (f := fun x => decide (grp x = grp a)) (decide_eq_false hne), cnt_f (f := fun x => decide (grp x = grp b)) (decide_eq_false hne2)] at ih
      rw [lz_p0, lz_p0]
      exact inner _ _ ih
    · rw [cnt_f (f := fun x => decide (grp x = grp a)) (decide_eq_false hne), cnt_t (f := fun x => decide (grp x = grp b)) (decide_eq_true he2)] at ih
      rw [lz_p0, lz_p1]
      exact inner _ _ ih
    · rw [cnt_t (f := fun x => decide (grp x = grp a)) (decide_eq_true he), cnt_f (f := fun x => decide (grp x = grp b)) (decide_eq_false hne2)] at ih
      rw [lz_p0, lz_p1]
      exact inner _ _ ih
    · rw [cnt_t (f := fun x => decide (grp x = grp a)) (decide_eq_true he), cnt_t (f := fun x => decide (grp x = grp b)) (decide_eq_true he2)] at ih
      rw [lz_p1, lz_p1]
      exact inner _ _ ih
end MP
