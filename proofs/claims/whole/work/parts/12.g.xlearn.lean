/-! the class: the learner -/
theorem tb_btb {B k : Nat} : B.testBit k = btb B k := by
  unfold btb
  exact Nat.testBit_eq_decide_div_mod_eq
theorem cnt12_11 {B : Nat} (h : B < 2048) : cnt 12 B.testBit = cnt 11 (btb B) := by
  have h11 : B.testBit 11 = false := Nat.testBit_lt_two_pow (by omega)
  rw [cnt_f (n := 11) h11]
  exact cnt_congr (fun i _ => tb_btb)
theorem btb_pos {B : Nat} (h : B < 2048) (h0 : 0 < B) : 0 < cnt 11 (btb B) := by
  rcases Nat.eq_zero_or_pos (cnt 11 (btb B)) with q | q
  · exfalso
    have : B = 0 := by
      apply Nat.eq_of_testBit_eq
      intro i
      rw [Nat.zero_testBit]
      rcases Nat.lt_or_ge i 11 with z | z
      · cases e : btb B i
        · rw [tb_btb, e]
        · have := cnt_pos z e
          omega
      · exact Nat.testBit_lt_two_pow (Nat.lt_of_lt_of_le h (show 2 ^ 11 ≤ 2 ^ i from Nat.pow_le_pow_right (by decide) z))
    omega
  · exact q
def canL (bits : Int32) : Bool := decide (¬ bits ≤ 0 ∧ ¬ 2048 ≤ bits) && decide (cnt 11 (btb (nn bits)) ≤ 3)
theorem okLn_wi (bits top : Int32) : okLn bits top = (canL bits && wi top 1 3) := by
  unfold okLn canL wi
  rw [← Bool.decide_and, ← Bool.decide_and, ← Bool.decide_and]
  exact wi_and ⟨fun ⟨⟨a, b, c, d⟩, e⟩ => ⟨⟨⟨a, b⟩, e⟩, c, nlt.mpr d⟩, fun ⟨⟨⟨a, b⟩, e⟩, c, d⟩ => ⟨⟨a, b, c, nlt.mp d⟩, e⟩⟩
theorem canLearn_ok {σ : Sto} {bits : Int32} {Post : Int32 → Sto → Prop} (hp : Post (b2i (canL bits)) σ) : X3_canLearn_wp σ bits Post := by
  have hn : bits = nI bits.toBitVec.toNat := nI_all bits
  have hlt := bits.toBitVec.isLt
  have hsh := pk_ushrN (n := bits.toBitVec.toNat) hlt (11 : Int32) 11 (by decide)
  rw [← hn] at hsh
  unfold X3_canLearn_wp
  rw [hsh]
  generalize hne : bits.toBitVec.toNat = n at *
  refine ⟨fun c => ⟨fun _ => ?_, fun q => absurd rfl q⟩, fun c => ⟨fun q => absurd q (by decide), fun _ => ?_⟩⟩
  · have big : ¬ n < 2048 := fun q => c (by rw [show n / 2 ^ 11 = 0 by omega]; rfl)
    have no : canL bits = false := by
      unfold canL
      rw [decide_eq_false, Bool.false_and]
      rintro ⟨h1, h2⟩
      have n0 : ¬ bits < 0 := fun q => h1 (by
        rw [Int32.lt_iff_toInt_lt] at q
        rw [Int32.le_iff_toInt_le]
        have : (0 : Int32).toInt = 0 := rfl
        omega)
      obtain ⟨j, hj, e⟩ := nI_of n0
      rw [e] at h2
      have q2 : ¬ 2048 ≤ j := fun q => h2 ((nI_leI (a := 2048) (by omega) hj).mpr q)
      have : n = j := by
        rw [← hne, e]
        exact Nat.mod_eq_of_lt (show j < 2 ^ 32 by omega)
      omega
    rw [no] at hp
    exact hp
  · have small : n < 2048 := by
      rcases Nat.lt_or_ge n 2048 with q | q
      · exact q
      · have := (nI_eq (b := 0) (show n / 2 ^ 11 < 2 ^ 31 by omega) (by omega)).mp c
        omega
    have en : nn bits = n := by unfold nn; rw [hn, nI_clamp (by omega)]
    rw [hn]
    refine bitCount_ok (f := n.testBit) ⟨n, by omega, rfl, fun k _ => rfl⟩ (wi_ok ?_)
    rw [cnt12_11 small]
    have hM11 := cnt_le 11 (btb n)
    have ec : canL bits = wi (nI (cnt 11 (btb n))) 1 3 := by
      unfold canL wi
      rw [en, ← Bool.decide_and]
      refine wi_and ⟨fun ⟨⟨h1, h2⟩, h3⟩ => ⟨fun q => ?_, fun q => ?_⟩, fun ⟨h1, h2⟩ => ⟨⟨fun q => ?_, fun q => ?_⟩, ?_⟩⟩
      · have q1 := (nI_ltI (b := 1) (by omega) (by omega)).mp q
        have : 0 < n := by
          rcases Nat.eq_zero_or_pos n with z | z
          · exact absurd (by rw [hn, z]; decide) h1
          · exact z
        have := btb_pos small this
        omega
      · have := (nI_ltI (a := 3) (by omega) (by omega)).mp q
        omega
      · have z : n = 0 := (le0 (by omega)).mp (by rw [← hn]; exact q)
        rw [z] at h1
        exact h1 (by decide)
      · have := (nI_leI (a := 2048) (b := n) (by omega) (by omega)).mp (by rw [← hn]; exact q)
        omega
      · rcases Nat.lt_or_ge 3 (cnt 11 (btb n)) with z | z
        · exact absurd ((nI_ltI (a := 3) (by omega) (by omega)).mpr z) h2
        · exact z
    rw [ec] at hp
    refine b2i_fi _ (fun e => ?_) (fun e => ?_)
    · rw [e] at hp
      exact hp
    · rw [e] at hp
      exact hp
theorem cpyS_s (σ : Sto) (a b n j : Nat) (hj : j < n) : (cpyS σ a b n).1 b j = σ.1 a j := by
  show (if b = b then va_cpy (σ.1 a) (σ.1 b) 0 0 n else σ.1 b) j = _
  rw [if_pos rfl]
  unfold va_cpy
  rw [if_pos ⟨Nat.zero_le _, by omega⟩, Nat.sub_zero, Nat.zero_add]
theorem cpyS_o (σ : Sto) {a b k : Nat} (n : Nat) (h : k ≠ b) : (cpyS σ a b n).1 k = σ.1 k := by
  show (if k = b then _ else σ.1 k) = _
  rw [if_neg h]
theorem smI_bits {b : Nat → Bool} {F G : Nat → Int} {N : Nat} : ∀ n, n ≤ N → smI n (fun j => (if b j then F (cnt j b) else 0) * G j) = smI (cnt n b) (fun c => F c * G (nth b N c))
  | 0, _ => rfl
  | n + 1, h => by
    have ih := smI_bits (b := b) (F := F) (G := G) (N := N) n (by omega)
    rw [smI_s, ih]
    cases e : b n
    · rw [cnt_f e, if_neg (by decide), Int.zero_mul, Int.add_zero]
    · rw [cnt_t e, if_pos rfl, smI_s, nth_cnt e N (by omega)]
section XL
variable {σ : Sto} {g : GS} {B : Nat}
theorem choose_ok {Post : Sto → Prop} (hB : B < 2048) (hM : cnt 11 (btb B) ≤ 3) (hp : ∀ σ' : Sto, (∀ k, k ≠ 20 → k ≠ 21 → σ'.1 k = σ.1 k) → σ'.2 = σ.2 → σ'.1 20 0 = nI (cnt 11 (btb B)) → (∀ c, c < cnt 11 (btb B) → σ'.1 21 c = nI (nth (btb B) 11 c)) → Post σ') : X3_choose_wp σ (nI B) Post := by
  intro K hK
  have loop : ∀ j i, i + j = 11 → ∀ υ : Sto, (∀ k, k ≠ 20 → k ≠ 21 → υ.1 k = σ.1 k) → υ.2 = σ.2 → υ.1 20 0 = nI (cnt i (btb B)) → (∀ c, c < cnt i (btb B) → υ.1 21 c = nI (nth (btb B) 11 c)) → K υ (nI i) := by
    intro j
    induction j with
    | zero =>
      intro i hi υ u1 u2 u3 u4
      have hi : i = 11 := hi
      subst hi
      apply hK
      exact ⟨fun _ => hp υ u1 u2 u3 u4, fun hn => absurd (by decide) hn⟩
    | succ j ih =>
      intro i hi υ u1 u2 u3 u4
      have hi2 : i < 11 := by omega
      have mi := cnt_mono_n (btb B) (show i + 1 ≤ 11 by omega)
      have mi2 := cnt_up i (btb B)
      apply hK
      unfold X3_choose_b7
      rw [bit_ok (by omega) hi2, u3]
      refine ⟨fun hn => absurd hn (nI_ge (b := 11) hi2 (by omega)), fun _ => ⟨fun h3 => ?_, fun h3 => ⟨fun hb => ?_, fun hb => ?_⟩⟩⟩
      · have q : 3 ≤ cnt i (btb B) := (nI_leI (a := 3) (by omega) (by omega)).mp h3
        have e : cnt 11 (btb B) = cnt i (btb B) := by omega
        exact hp υ u1 u2 (by rw [e]; exact u3) (by rw [e]; exact u4)
      · have hb : btb B i = false := by
          cases e : btb B i
          · rfl
          · exact absurd (by rw [e]; rfl) hb
        have := ih (i + 1) (by omega) υ u1 u2
        rw [cnt_f hb, ← nI_1] at this
        exact this u3 u4
      · have hb : btb B i = true := by
          cases e : btb B i
          · rw [e] at hb
            exact absurd hb (by decide)
          · rfl
        rw [cnt_t hb] at mi
        rw [nI_clamp (by omega), nI_1, nI_1]
        refine ⟨vp_in_nI (by omega) (by decide), ?_⟩
        refine ih (i + 1) (by omega) _ (fun k h1 h2 => by rw [sI_o _ _ _ h1, sI_o _ _ _ h2]; exact u1 k h1 h2) u2 (by rw [sI_e, cnt_t hb]) (fun c hc => ?_)
        rw [cnt_t hb] at hc
        rw [sI_o _ _ _ (by decide)]
        by_cases z : c = cnt i (btb B)
        · rw [z, sI_e, nth_cnt hb 11 hi2]
        · rw [sI_n _ _ _ z]
          exact u4 c (by omega)
  exact loop 11 0 rfl _ (fun k h1 _ => sI_o _ _ _ h1) rfl (by rw [sI_e]; exact nI_0.symm) (fun c hc => by simp [cnt] at hc)
/-- what the learner has, with the measures taken -/
def XL (σ : Sto) (g : GS) (B : Nat) : Prop := XI σ g ∧ XC σ.1 g ∧ σ.1 20 0 = nI (cnt 11 (btb B)) ∧ (∀ c, c < cnt 11 (btb B) → σ.1 21 c = nI (nth (btb B) 11 c)) ∧ (∀ c, c < cnt 11 (btb B) → ∀ i, i < gm g → σ.2 (25 + c) i = lz (gP g (nth (btb B) 11 c) (nth (gC g) 144 i / 12) (nth (gC g) 144 i % 12) : Nat))
theorem measureAll_ok {Post : Sto → Prop} (h : XI σ g) (hc : XC σ.1 g) (hM : cnt 11 (btb B) ≤ 3) (h20 : σ.1 20 0 = nI (cnt 11 (btb B))) (h21 : ∀ c, c < cnt 11 (btb B) → σ.1 21 c = nI (nth (btb B) 11 c)) (hp : ∀ σ' : Sto, XL σ' g B → Post σ') : X3_measureAll_wp σ Post := by
  have hm := gm_le g
  have hpt := pT_le g
  intro K2 K13 h2 h13
  have outer : ∀ j c, c + j = cnt 11 (btb B) → ∀ υ : Sto, XI υ g → υ.1 = σ.1 → (∀ d, d < c → ∀ i, i < gm g → υ.2 (25 + d) i = lz (gP g (nth (btb B) 11 d) (nth (gC g) 144 i / 12) (nth (gC g) 144 i % 12) : Nat)) → K2 υ (nI c) := by
    intro j
    induction j with
    | zero =>
      intro c hcj υ hυ u1 u2
      have hcj : c = cnt 11 (btb B) := hcj
      subst hcj
      apply h2
      unfold X3_measureAll_b2
      rw [u1, h20]
      refine pk_le (cnt 11 (btb B)) (cnt 11 (btb B)) (fun _ => ?_) (fun z => by omega)
      refine hp υ ⟨hυ, by rw [u1]; exact hc, by rw [u1]; exact h20, by rw [u1]; exact h21, u2⟩
    | succ j ih =>
      intro c hcj υ hυ u1 u2
      have hc2 : c < cnt 11 (btb B) := by omega
      have hw := nth_spec 11 c hc2
      apply h2
      unfold X3_measureAll_b2
      rw [u1, h20]
      refine pk_le (cnt 11 (btb B)) c (fun z => by omega) (fun _ => ?_)
      have inner : ∀ j2 i, i + j2 = gm g → ∀ ω : Sto, XI ω g → ω.1 = σ.1 → (∀ d, d < c → ∀ i, i < gm g → ω.2 (25 + d) i = lz (gP g (nth (btb B) 11 d) (nth (gC g) 144 i / 12) (nth (gC g) 144 i % 12) : Nat)) → (∀ k, k < i → ω.2 (25 + c) k = lz (gP g (nth (btb B) 11 c) (nth (gC g) 144 k / 12) (nth (gC g) 144 k % 12) : Nat)) → K13 ω (nI c) (nI i) := by
        intro j2
        induction j2 with
        | zero =>
          intro i hi ω hω w1 w2 w3
          have hi : i = gm g := hi
          subst hi
          apply h13
          unfold X3_measureAll_b13
          rw [w1, hc.1, nI_1]
          refine pk_le (gm g) (gm g) (fun _ => ?_) (fun z => by omega)
          refine ih (c + 1) (by omega) ω hω w1 (fun d hd i hi => ?_)
          by_cases z : d = c
          · subst z
            exact w3 i hi
          · exact w2 d (by omega) i hi
        | succ j2 ih2 =>
          intro i hi ω hω w1 w2 w3
          have hi2 : i < gm g := by omega
          have hn := nthC hi2
          have vc : vp_in (nI c) 3 := vp_in_nI (by omega) (by decide)
          have vi : vp_in (nI i) 132 := vp_in_nI (by omega) (by decide)
          apply h13
          unfold X3_measureAll_b13
          rw [w1, hc.1, nI_clamp (by omega), nI_clamp (by omega), h21 c hc2, hc.2.2.2.1 i hi2]
          refine pk_le (gm g) i (fun z => by omega) (fun _ => ⟨vc, ?_⟩)
          have nx : ∀ q, q = 25 + c → X4_partsOf_wp ω (nI (nth (btb B) 11 c)) (nI (ixp g (nth (gC g) 144 i))) (fun r1 σ1 => vp_in (nI i) 132 ∧ K13 (sJ σ1 q i r1) (nI c) (nI i + 1)) := by
            intro q hq
            subst hq
            refine partsOf_ok hω hn.2.2.2 (by omega) ⟨vi, ?_⟩
            rw [hn.2.2.1, nI_1]
            refine ih2 (i + 1) (by omega) _ (hω.kp (Xk.j (by omega))) w1 (fun d hd k hk => ?_) (fun k hk => ?_)
            · rw [sJ_o _ _ _ (by omega)]
              exact w2 d hd k hk
            · by_cases z : k = i
              · rw [z, sJ_e]
              · rw [sJ_n _ _ _ z]
                exact w3 k (by omega)
          exact ⟨fun e => ⟨vc, vi, nx 25 (by omega)⟩, fun e => ⟨vc, vi, nx 26 (by omega)⟩, fun e => ⟨vc, vi, nx 27 (by omega)⟩⟩
      exact inner (gm g) 0 (by omega) υ hυ u1 u2 (fun k hk => by omega)
  exact outer (cnt 11 (btb B)) 0 (by omega) σ h rfl (fun d hd => by omega)
theorem XL.kp {τ : Sto} (h : XL σ g B) (k1 : ∀ k, k ≠ 19 → k ≠ 22 → k ≠ 23 → τ.1 k = σ.1 k) (k2 : ∀ k, k ≠ 16 → τ.2 k = σ.2 k) : XL τ g B := by
  obtain ⟨a, b, c, d, e⟩ := h
  refine ⟨a.kp ⟨fun k hk => k1 k (by omega) (by omega) (by omega), k2 29 (by decide)⟩, b.cong (fun k h1 h2 => k1 k (by omega) (by omega) (by omega)), ?_, ?_, fun x hx i hi => ?_⟩
  · rw [k1 20 (by decide) (by decide) (by decide)]; exact c
  · rw [k1 21 (by decide) (by decide) (by decide)]; exact d
  · rw [k2 (25 + x) (by omega)]; exact e x hx i hi
theorem trialTotal_ok {T : Nat} {Post : Int32 → Sto → Prop} (h : XL σ g B) (hp : Post (nI ((T + 1) ^ cnt 11 (btb B))) σ) : X3_trialTotal_wp σ (nI T) Post := by
  have hM := cnt_le 11 (btb B)
  intro K hK
  have := down (fun i => K σ (nI ((T + 1) ^ i)) (nI i)) (cnt 11 (btb B)) ?_ (fun i hi ih => ?_)
  · exact this
  · apply hK
    unfold X3_trialTotal_b4
    rw [h.2.2.1]
    exact pk_le (cnt 11 (btb B)) (cnt 11 (btb B)) (fun _ => hp) (fun z => by omega)
  · apply hK
    unfold X3_trialTotal_b4
    rw [h.2.2.1]
    refine pk_le (cnt 11 (btb B)) i (fun z => by omega) (fun _ => ?_)
    rw [nI_1, nI_1, pk_mul, ← Nat.pow_succ]
    exact ih
theorem setTried_ok {T c : Nat} {Post : Sto → Prop} (h : XL σ g B) (hM : cnt 11 (btb B) ≤ 3) (hT : 1 ≤ T) (hT3 : T ≤ 3) (hc : c < 64) (hp : ∀ σ' : Sto, (∀ k, k ≠ 22 → σ'.1 k = σ.1 k) → σ'.2 = σ.2 → (∀ k, k < cnt 11 (btb B) → σ'.1 22 k = nI (dgt (T + 1) (cnt 11 (btb B)) c k)) → Post σ') : X3_setTried_wp σ (nI c) (nI T) Post := by
  intro K hK
  have hnl : ¬ nI T < (1 : Int32) := fun q => by
    have := (nI_ltI (b := 1) (by omega) (by omega)).mp q
    omega
  rw [if_neg hnl, nI_1, h.2.2.1]
  generalize hMe : cnt 11 (btb B) = M at *
  have nz : ¬ nI (T + 1) = 0 := nI_ne0 (by omega) (by omega)
  have hpw : ∀ k, 0 < (T + 1) ^ k := fun k => Nat.pow_pos (by omega)
  have digits : ∀ k, k ≤ M → ∀ υ : Sto, (∀ k, k ≠ 22 → υ.1 k = σ.1 k) → υ.2 = σ.2 → (∀ j, k ≤ j → j < M → υ.1 22 j = nI (dgt (T + 1) M c j)) → K υ (nI (T + 1)) (nI (c / (T + 1) ^ (M - k))) (nI k - 1) := by
    intro k
    induction k with
    | zero =>
      intro _ υ u1 u2 u3
      apply hK
      refine ⟨fun _ => hp υ u1 u2 (fun j hj => u3 j (Nat.zero_le _) hj), fun hn => absurd (show nI 0 - 1 < (0 : Int32) by decide) hn⟩
    | succ k ih =>
      intro hk υ u1 u2 u3
      have hdl : c / (T + 1) ^ (M - (k + 1)) ≤ c := Nat.div_le_self _ _
      apply hK
      unfold X3_setTried_b19
      rw [nI_pred]
      have ed : c / (T + 1) ^ (M - (k + 1)) / (T + 1) = c / (T + 1) ^ (M - k) := by
        rw [Nat.div_div_eq_div_mul, ← Nat.pow_succ, show (M - (k + 1)).succ = M - k by omega]
      have eg : c / (T + 1) ^ (M - (k + 1)) % (T + 1) = dgt (T + 1) M c k := by
        unfold dgt
        rw [show M - 1 - k = M - (k + 1) by omega]
      rw [nI_clamp (by omega), pk_rem (by omega) (by omega) (by omega), pk_div (by omega) (by omega) (by omega), ed, eg, show nI k + (-1) = nI k - 1 from (Int32.sub_eq_add_neg _ _).symm]
      refine ⟨fun hn => absurd hn (nI_pos (by omega)), fun _ => ⟨nz, vp_in_nI (by omega) (by decide), nz, ?_⟩⟩
      refine ih (by omega) _ (fun j hj => by rw [sI_o _ _ _ hj]; exact u1 j hj) u2 (fun j h1 h2 => ?_)
      by_cases z : j = k
      · rw [z, sI_e]
      · rw [sI_n _ _ _ z]
        exact u3 j (by omega) h2
  have := digits M (Nat.le_refl M) σ (fun _ _ => rfl) rfl (fun j h1 h2 => by omega)
  rw [Nat.sub_self, Nat.pow_zero, Nat.div_one] at this
  exact this
theorem dgt_lt {b M c k : Nat} (hb : 0 < b) : dgt b M c k < b := Nat.mod_lt _ hb
theorem wtT_le {T c k : Nat} (hT : T ≤ 3) : -99 ≤ wtT B (T + 1) c k ∧ wtT B (T + 1) c k ≤ 99 := by
  unfold wtT
  have : dgt (T + 1) (cnt 11 (btb B)) c (cnt k (btb B)) < T + 1 := dgt_lt (by omega)
  split <;> omega
theorem mixTried_ok {T c : Nat} {Post : Sto → Prop} (h : XL σ g B) (hM : cnt 11 (btb B) ≤ 3) (hT : T ≤ 3) (ht : ∀ k, k < cnt 11 (btb B) → σ.1 22 k = nI (dgt (T + 1) (cnt 11 (btb B)) c k)) (hp : ∀ σ' : Sto, σ'.1 = σ.1 → (∀ k, k ≠ 16 → σ'.2 k = σ.2 k) → (∀ j, j < gm g → σ'.2 16 j = lz (mvp (gP g) (wtT B (T + 1) c) (nth (gC g) 144 j))) → Post σ') : X3_mixTried_wp σ Post := by
  have hm := gm_le g
  intro K2 K15 h2 h15
  have outer : ∀ j i, i + j = gm g → ∀ υ : Sto, υ.1 = σ.1 → (∀ k, k ≠ 16 → υ.2 k = σ.2 k) → (∀ j, j < i → υ.2 16 j = lz (mvp (gP g) (wtT B (T + 1) c) (nth (gC g) 144 j))) → K2 υ (nI i) := by
    intro j
    induction j with
    | zero =>
      intro i hi υ u1 u2 u3
      have hi : i = gm g := hi
      subst hi
      apply h2
      unfold X3_mixTried_b2
      rw [u1, h.2.1.1]
      exact pk_le (gm g) (gm g) (fun _ => hp υ u1 u2 u3) (fun z => by omega)
    | succ j ih =>
      intro i hi υ u1 u2 u3
      have hi2 : i < gm g := by omega
      have vi : vp_in (nI i) 132 := vp_in_nI (by omega) (by decide)
      apply h2
      unfold X3_mixTried_b2
      rw [u1, h.2.1.1]
      refine pk_le (gm g) i (fun z => by omega) (fun _ => ?_)
      have inner := down (fun d => K15 υ (nI i) (lz (smI d (fun k => (dgt (T + 1) (cnt 11 (btb B)) c k : Int) * (gP g (nth (btb B) 11 k) (nth (gC g) 144 i / 12) (nth (gC g) 144 i % 12) : Int)))) (nI d)) (cnt 11 (btb B)) ?_ (fun d hd ih2 => ?_)
      · exact inner
      · apply h15
        unfold X3_mixTried_b15
        rw [u1, h.2.2.1, nI_clamp (by omega), nI_1]
        refine pk_le (cnt 11 (btb B)) (cnt 11 (btb B)) (fun _ => ⟨vi, ?_⟩) (fun z => by omega)
        refine ih (i + 1) (by omega) _ u1 (fun k hk => by rw [sJ_o _ _ _ hk]; exact u2 k hk) (fun j hj => ?_)
        by_cases z : j = i
        · rw [z, sJ_e]
          unfold mvp mixv wtT
          rw [smI_bits (b := btb B) (F := fun k => (dgt (T + 1) (cnt 11 (btb B)) c k : Int)) (G := fun k => (gP g k (nth (gC g) 144 i / 12) (nth (gC g) 144 i % 12) : Int)) (N := 11) 11 (Nat.le_refl 11)]
        · rw [sJ_n _ _ _ z]
          exact u3 j (by omega)
      · have vd : vp_in (nI d) 3 := vp_in_nI (by omega) (by decide)
        have hdg : dgt (T + 1) (cnt 11 (btb B)) c d < T + 1 := dgt_lt (by omega)
        apply h15
        unfold X3_mixTried_b15
        rw [u1, h.2.2.1, nI_clamp (by omega), nI_clamp (by omega), ht d hd, nI_lz (by omega)]
        refine pk_le (cnt 11 (btb B)) d (fun z => by omega) (fun _ => ⟨vd, vd, ?_⟩)
        have nx : ∀ q, q = 25 + d → K15 υ (nI i) (lz (smI d (fun k => (dgt (T + 1) (cnt 11 (btb B)) c k : Int) * (gP g (nth (btb B) 11 k) (nth (gC g) 144 i / 12) (nth (gC g) 144 i % 12) : Int))) + lz (dgt (T + 1) (cnt 11 (btb B)) c d : Nat) * υ.2 q i) (nI d + 1) := by
          intro q hq
          subst hq
          rw [u2 (25 + d) (by omega), h.2.2.2.2 d hd i hi2, lz_mul, lz_add, nI_1]
          rw [smI_s] at ih2
          exact ih2
        exact ⟨fun e => ⟨vi, nx 25 (by omega)⟩, fun e => ⟨vi, nx 26 (by omega)⟩, fun e => ⟨vi, nx 27 (by omega)⟩⟩
  exact outer (gm g) 0 (by omega) σ rfl (fun _ _ => rfl) (fun j hj => by omega)
theorem shT_le (B b c : Nat) : shT g B b c ≤ 132 * (132 * 2) := Nat.le_trans (shr_le _ _ _ _) (Nat.mul_le_mul (nF_le g) (Nat.mul_le_mul_right 2 (nE_le g)))
theorem findBest_ok {T : Nat} {Post : Int32 → Sto → Prop} (h : XL σ g B) (hM : cnt 11 (btb B) ≤ 3) (hT : 1 ≤ T) (hT3 : T ≤ 3) (hp : ∀ σ' : Sto, XL σ' g B → (∀ k, k < cnt 11 (btb B) → σ'.1 23 k = nI (dgt (T + 1) (cnt 11 (btb B)) (bestT g B (T + 1)) k)) → Post (nI (shT g B (T + 1) (bestT g B (T + 1)))) σ') : X3_findBest_wp σ (nI T) Post := by
  have hP : ∀ k a b, gP g k a b ≤ 1404 * SC := fun k a b => h.1.gP_le k a b
  intro K hK
  refine trialTotal_ok h ?_
  have hpw : (T + 1) ^ cnt 11 (btb B) ≤ 64 ∧ 0 < (T + 1) ^ cnt 11 (btb B) := by
    refine ⟨?_, Nat.pow_pos (by omega)⟩
    calc (T + 1) ^ cnt 11 (btb B) ≤ 4 ^ cnt 11 (btb B) := Nat.pow_le_pow_left (by omega) _
      _ ≤ 4 ^ 3 := Nat.pow_le_pow_right (by decide) hM
      _ = 64 := by decide
  have trials : ∀ j c, c + j = (T + 1) ^ cnt 11 (btb B) → ∀ (υ : Sto) (x : Int32), XL υ g B → ((c = 0 ∧ x = -1) ∨ (0 < c ∧ x = nI (shT g B (T + 1) (bstA (shT g B (T + 1)) c)) ∧ ∀ k, k < cnt 11 (btb B) → υ.1 23 k = nI (dgt (T + 1) (cnt 11 (btb B)) (bstA (shT g B (T + 1)) c) k))) → K υ x (nI ((T + 1) ^ cnt 11 (btb B))) (nI c) := by
    intro j
    induction j with
    | zero =>
      intro c hc υ x z q
      have hc : c = (T + 1) ^ cnt 11 (btb B) := hc
      apply hK
      unfold X3_findBest_b12
      refine pk_le ((T + 1) ^ cnt 11 (btb B)) c (fun _ => ?_) (fun r => by omega)
      rcases q with q | q
      · omega
      · have e : bstA (shT g B (T + 1)) c = bestT g B (T + 1) := by
          unfold bestT trl
          rw [hc]
        rw [e] at q
        rw [q.2.1]
        exact hp υ z q.2.2
    | succ j ih =>
      intro c hc υ x z q
      apply hK
      unfold X3_findBest_b12
      refine pk_le ((T + 1) ^ cnt 11 (btb B)) c (fun r => by omega) (fun _ => ?_)
      refine setTried_ok z hM hT hT3 (by omega) (fun τ t1 t2 t3 => ?_)
      have zτ : XL τ g B := z.kp (fun k _ h2 _ => t1 k h2) (fun k _ => by rw [t2])
      refine mixTried_ok zτ hM hT3 t3 (fun ω w1 w2 w3 => ?_)
      have zω : XL ω g B := zτ.kp (fun k _ _ _ => by rw [w1]) w2
      refine halvesWon_ok zω.2.1 w3 (fun p => mixv_lt hP (fun k _ => wtT_le hT3) _ _) ?_
      show (nI (shT g B (T + 1) c) ≤ x → K ω x (nI ((T + 1) ^ cnt 11 (btb B))) (nI c + 1)) ∧ (¬ nI (shT g B (T + 1) c) ≤ x → (¬ ω.1 20 0 < 0 ∧ ((ω.1 20 0).toNatClampNeg ≤ 3 ∧ K (cpyS ω 22 23 (ω.1 20 0).toNatClampNeg) (nI (shT g B (T + 1) c)) (nI ((T + 1) ^ cnt 11 (btb B))) (nI c + 1))))
      have sc := shT_le (g := g) B (T + 1) c
      rw [zω.2.2.1, nI_clamp (by omega), nI_1]
      have keep : bstA (shT g B (T + 1)) (c + 1) = c → (¬ nI (cnt 11 (btb B)) < 0 ∧ (cnt 11 (btb B) ≤ 3 ∧ K (cpyS ω 22 23 (cnt 11 (btb B))) (nI (shT g B (T + 1) c)) (nI ((T + 1) ^ cnt 11 (btb B))) (nI (c + 1)))) := by
        intro hbest
        refine ⟨nI_pos (by omega), hM, ?_⟩
        refine ih (c + 1) (by omega) _ _ (zω.kp (fun k _ _ h3 => cpyS_o _ _ h3) (fun _ _ => rfl)) (Or.inr ⟨by omega, by rw [hbest], fun k hk => ?_⟩)
        rw [cpyS_s _ _ _ _ _ hk, hbest, w1]
        exact t3 k hk
      rcases q with q | q
      · rw [q.2]
        refine ⟨fun r => absurd r ?_, fun _ => keep (by rw [q.1]; rfl)⟩
        intro r
        rw [Int32.le_iff_toInt_le, nI_toInt (by omega)] at r
        have : (-1 : Int32).toInt = -1 := rfl
        omega
      · have sA := shT_le (g := g) B (T + 1) (bstA (shT g B (T + 1)) c)
        have hstep : bstA (shT g B (T + 1)) (c + 1) = if shT g B (T + 1) (bstA (shT g B (T + 1)) c) < shT g B (T + 1) c then c else bstA (shT g B (T + 1)) c := by
          show (if c = 0 then 0 else _) = _
          rw [if_neg (by omega)]
        rw [q.2.1, nI_leI (by omega) (by omega)]
        refine ⟨fun r => ?_, fun r => keep (by rw [hstep, if_pos (by omega)])⟩
        rw [if_neg (by omega)] at hstep
        refine ih (c + 1) (by omega) ω _ zω (Or.inr ⟨by omega, by rw [hstep], fun k hk => ?_⟩)
        rw [hstep, w1, t1 23 (by decide)]
        exact q.2.2 k hk
  exact trials ((T + 1) ^ cnt 11 (btb B)) 0 (by omega) σ (-1) h (Or.inl ⟨rfl, rfl⟩)
theorem handOver_ok {T c : Nat} {Post : Sto → Prop} (h : XL σ g B) (hM : cnt 11 (btb B) ≤ 3) (hT3 : T ≤ 3) (hb : ∀ k, k < cnt 11 (btb B) → σ.1 23 k = nI (dgt (T + 1) (cnt 11 (btb B)) c k)) (hp : ∀ σ' : Sto, (∀ k, k ≠ 13 → σ'.1 k = σ.1 k) → σ'.2 = σ.2 → XW σ'.1 (wtT B (T + 1) c) → Post σ') : X3_handOver_wp σ Post := by
  have whc : ∀ j, j < 11 → btb B j = true → cnt j (btb B) < cnt 11 (btb B) ∧ nth (btb B) 11 (cnt j (btb B)) = j := by
    intro j hj hb
    refine ⟨?_, nth_cnt hb 11 hj⟩
    have := cnt_mono_n (btb B) (show j + 1 ≤ 11 by omega)
    rw [cnt_t hb] at this
    omega
  intro K hK
  unfold fill_wp
  have loop : ∀ j i, i + j = cnt 11 (btb B) → ∀ υ : Sto, (∀ k, k ≠ 13 → υ.1 k = σ.1 k) → υ.2 = σ.2 → (∀ j, j < 11 → btb B j = false → υ.1 13 j = 0) → (∀ j, j < 11 → btb B j = true → cnt j (btb B) < i → υ.1 13 j = nI (dgt (T + 1) (cnt 11 (btb B)) c (cnt j (btb B)))) → K υ (nI i) := by
    intro j
    induction j with
    | zero =>
      intro i hi υ u1 u2 u3 u4
      have hi : i = cnt 11 (btb B) := hi
      subst hi
      apply hK
      unfold X3_handOver_b7
      rw [u1 20 (by decide), h.2.2.1]
      refine pk_le (cnt 11 (btb B)) (cnt 11 (btb B)) (fun _ => ?_) (fun z => by omega)
      refine hp υ u1 u2 (fun k hk => ⟨?_, wtT_le hT3⟩)
      unfold wtT
      cases e : btb B k
      · rw [if_neg (by decide), u3 k hk e]
        rfl
      · rw [if_pos rfl, u4 k hk e (whc k hk e).1, iz_nat]
    | succ j ih =>
      intro i hi υ u1 u2 u3 u4
      have hi2 : i < cnt 11 (btb B) := by omega
      have hw := nth_spec 11 i hi2
      have v3 : vp_in (nI i) 3 := vp_in_nI (by omega) (by decide)
      apply hK
      unfold X3_handOver_b7
      rw [u1 20 (by decide), h.2.2.1, nI_clamp (by omega), u1 21 (by decide), h.2.2.2.1 i hi2, nI_clamp (by omega), u1 23 (by decide), hb i hi2, nI_1]
      refine pk_le (cnt 11 (btb B)) i (fun z => by omega) (fun _ => ⟨v3, v3, vp_in_nI (by omega) (by decide), ?_⟩)
      refine ih (i + 1) (by omega) _ (fun k hk => by rw [sI_o _ _ _ hk]; exact u1 k hk) u2 (fun k hk hbk => ?_) (fun k hk hbk hck => ?_)
      · rw [sI_n _ _ _ (fun q => by rw [q, hw.1] at hbk; cases hbk)]
        exact u3 k hk hbk
      · by_cases q : k = nth (btb B) 11 i
        · rw [q, sI_e, hw.2.2]
        · rw [sI_n _ _ _ q]
          refine u4 k hk hbk ?_
          rcases Nat.lt_or_ge (cnt k (btb B)) i with y | y
          · exact y
          · have : cnt k (btb B) = i := by omega
            exact absurd (by rw [← this]; exact (whc k hk hbk).2.symm) q
  exact loop (cnt 11 (btb B)) 0 (by omega) _ (fun k hk => fillS_o _ _ _ hk) rfl (fun k hk _ => by rw [fillS_s, if_pos hk]) (fun k _ _ hk => by omega)
theorem xLearn_ok {bits top : Int32} {Post : Int32 → Sto → Prop} (h : XI σ g) (hp : ∀ σ' : Sto, XI σ' (gLearn g bits top) → Post (rLearn g bits top) σ') : X7_learn_wp σ bits top Post := by
  have b1 := nF_le g
  have b2 := nE_le g
  unfold gLearn rLearn at hp
  have bad : okLn bits top = false → Post (-2 : Int32) σ := by
    intro z
    rw [z, if_neg (fun q => absurd q.1 (by decide)), if_neg (by decide)] at hp
    exact hp σ h
  unfold X7_learn_wp
  refine canLearn_ok (b2i_fi _ (fun h1 => wi_ok (b2i_if _ (fun h2 => ?_) (fun h2 => bad (by rw [okLn_wi, h1, h2]; rfl)))) (fun h1 => bad (by rw [okLn_wi, h1]; rfl)))
  have ok : okLn bits top = true := by rw [okLn_wi, h1, h2]; rfl
  have okd := ok
  unfold okLn at okd
  rw [Bool.and_eq_true, decide_eq_true_eq, decide_eq_true_eq] at okd
  obtain ⟨eB, B0, B1, eT, T0, T1⟩ := okLn_spec okd.1
  have hM := okd.2
  rw [ok] at hp
  generalize nn bits = B at *
  generalize nn top = T at *
  subst eB
  subst eT
  refine gather_ok h (fun τ hτ cτ => judged_ok cτ (b2i_if _ (fun oks => ?_) (fun oks => ?_)))
  · have okf := of_decide_eq_true oks
    rw [oks, if_pos ⟨rfl, rfl⟩, if_pos rfl, if_pos rfl] at hp
    refine choose_ok B1 hM (fun υ u1 u2 u3 u4 => ?_)
    have hυ : XI υ g := hτ.kp ⟨fun k hk => u1 k (by omega) (by omega), by rw [u2]⟩
    have cυ : XC υ.1 g := cτ.cong (fun k h1 h2 => u1 k (by omega) (by omega))
    refine measureAll_ok hυ cυ hM u3 u4 (fun ω lω => findBest_ok lω hM T0 T1 (fun ρ lρ r1 => handOver_ok lρ hM T1 r1 (fun π p1 p2 p3 => ?_)))
    have cπ : XC π.1 g := lρ.2.1.cong (fun k h1 h2 => p1 k (by omega))
    have xπ : XI π (gWt g (wtT B (T + 1) (bestT g B (T + 1)))) := lρ.1.wts (fun j hj => p1 j (by omega)) (by rw [p2]) p3
    refine inAll_ok cπ ?_
    have s1 := shT_le (g := g) B (T + 1) (bestT g B (T + 1))
    have s3 : 2 * nF g * nE g ≤ 2 * 132 * 132 := Nat.mul_le_mul (Nat.mul_le_mul_left 2 b1) b2
    have s4 : 0 < 2 * nF g * nE g := Nat.mul_pos (Nat.mul_pos (by decide) okf.1) okf.2
    rw [nI_lz (by omega), nI_lz (by omega)]
    exact shown_ok xπ (by omega) s4 (by omega) hp
  · rw [oks, if_neg (fun q => absurd q.2 (by decide)), if_pos rfl, if_neg (by decide)] at hp
    exact hp τ hτ
end XL
