/-! learn -/
def btb (B k : Nat) : Bool := decide (B / 2 ^ k % 2 = 1)
theorem shs : ∀ k, k < 11 → ((nI k &&& (31 : Int32)).toBitVec.smod 32).toNat = k := by decide +kernel
theorem bit_ok {B k : Nat} (hB : B < 2 ^ 31) (hk : k < 11) : (nI B >>> (nI k &&& 31)) &&& (1 : Int32) = b2i (btb B k) := by
  rw [pk_shrN hB _ k (shs k hk), pk_andN (by have := Nat.div_le_self B (2 ^ k); omega) 1 (by decide)]
  unfold btb
  have : B / 2 ^ k % 2 < 2 := Nat.mod_lt _ (by decide)
  by_cases e : B / 2 ^ k % 2 = 1
  · rw [decide_eq_true e, show B / 2 ^ k % 2 ^ 1 = 1 from e]
    rfl
  · rw [decide_eq_false e, show B / 2 ^ k % 2 ^ 1 = 0 by omega]
    rfl
def okLn (bits top : Int32) : Bool := decide (¬ bits ≤ 0 ∧ ¬ 2048 ≤ bits ∧ ¬ top < 1 ∧ top ≤ 3) && decide (cnt 11 (btb (nn bits)) ≤ 3)
theorem okLn_spec {bits top : Int32} (h : ¬ bits ≤ 0 ∧ ¬ 2048 ≤ bits ∧ ¬ top < 1 ∧ top ≤ 3) : bits = nI (nn bits) ∧ 0 < nn bits ∧ nn bits < 2048 ∧ top = nI (nn top) ∧ 1 ≤ nn top ∧ nn top ≤ 3 := by
  obtain ⟨h1, h2, h3, h4⟩ := h
  have z0 : (0 : Int32).toInt = 0 := rfl
  have z1 : (1 : Int32).toInt = 1 := rfl
  have n0 : ¬ bits < 0 := fun q => h1 (by
    rw [Int32.lt_iff_toInt_lt] at q
    rw [Int32.le_iff_toInt_le]
    omega)
  have s0 : ¬ top < 0 := fun q => h3 (by
    rw [Int32.lt_iff_toInt_lt] at q ⊢
    omega)
  obtain ⟨j, hj, e⟩ := nI_of n0
  obtain ⟨i, hi, e2⟩ := nI_of s0
  have ej : nn bits = j := by unfold nn; rw [e, nI_clamp hj]
  have ei : nn top = i := by unfold nn; rw [e2, nI_clamp hi]
  rw [ej, ei]
  rw [e] at h1 h2
  rw [e2] at h3 h4
  have q1 : ¬ j = 0 := fun q => h1 ((le0 hj).mpr q)
  have q2 : ¬ 2048 ≤ j := fun q => h2 ((nI_leI (a := 2048) (by omega) hj).mpr q)
  have q3 : ¬ i < 1 := fun q => h3 ((nI_ltI (b := 1) hi (by omega)).mpr q)
  have q4 : i ≤ 3 := (nI_leI (b := 3) hi (by omega)).mp h4
  exact ⟨e, by omega, by omega, e2, by omega, q4⟩
/-- the digits of a trial: the first of M digits changes last -/
def dgt (base M c k : Nat) : Nat := c / base ^ (M - 1 - k) % base
def wtT (B base c : Nat) : Nat → Int := fun j => if btb B j then (dgt base (cnt 11 (btb B)) c (cnt j (btb B)) : Int) else 0
def shT (g : GS) (B base c : Nat) : Nat := shr (gF g) (gE g) (mvp (gP g) (wtT B base c)) (nF g)
/-- the first of the best -/
def bstA (sh : Nat → Nat) : Nat → Nat
  | 0 => 0
  | n + 1 => if n = 0 then 0 else if sh (bstA sh n) < sh n then n else bstA sh n
def trl (B base : Nat) : Nat := base ^ cnt 11 (btb B)
def bestT (g : GS) (B base : Nat) : Nat := bstA (shT g B base) (trl B base)
def gLearn (g : GS) (bits top : Int32) : GS := if okLn bits top = true ∧ okSh g = true then gFr (gWt g (wtT (nn bits) (nn top + 1) (bestT g (nn bits) (nn top + 1)))) (shT g (nn bits) (nn top + 1) (bestT g (nn bits) (nn top + 1))) (2 * nF g * nE g) else g
def rLearn (g : GS) (bits top : Int32) : Int32 := if okLn bits top then (if okSh g then 1 else -3) else -2
def KL (σ σ' : Sto) : Prop := (∀ j, j ≠ 18 → j ≠ 28 → j ≠ 29 → σ'.1 0 j = σ.1 0 j) ∧ (∀ k, 1 ≤ k → k ≤ 6 → σ'.1 k = σ.1 k) ∧ σ'.2 0 16 = σ.2 0 16 ∧ σ'.2 0 17 = σ.2 0 17
theorem KL.tr {σ τ υ : Sto} (h : KL σ τ) (h2 : KL τ υ) : KL σ υ := ⟨fun k a b c => (h2.1 k a b c).trans (h.1 k a b c), fun k a b => (h2.2.1 k a b).trans (h.2.1 k a b), h2.2.2.1.trans h.2.2.1, h2.2.2.2.trans h.2.2.2⟩
theorem Ks.kl {σ τ : Sto} (h : Ks σ τ) : KL σ τ := ⟨h.1, fun k a b => h.2.1 k a (by omega), h.2.2.1, h.2.2.2.1⟩
theorem KL.i {σ : Sto} {k j : Nat} {x : Int32} (hk : 7 ≤ k) : KL σ (sI σ k j x) := ⟨fun _ _ _ _ => by rw [sI_o _ _ _ (by omega)], fun i _ _ => by rw [sI_o _ _ _ (by omega)], rfl, rfl⟩
theorem MB.kl {σ τ : Sto} {N S : Nat} {ar : Nat → Nat} {hid : Nat → Bool} {grp : Nat → Nat} {v w s : Nat} (h : MB σ.1 N S ar hid grp v w s) (k : KL σ τ) : MB τ.1 N S ar hid grp v w s := by
  obtain ⟨a, b, c, d⟩ := h
  refine ⟨a.same (k.1 0 (by decide) (by decide) (by decide)) (k.1 1 (by decide) (by decide) (by decide)) (k.2.1 1 (by decide) (by decide)) (k.2.1 5 (by decide) (by decide)), ?_, ?_, d⟩
  · unfold MGrp at b ⊢
    rw [k.2.1 6 (by decide) (by decide)]
    exact b
  · unfold MPar at c ⊢
    rw [k.1 10 (by decide) (by decide) (by decide), k.1 11 (by decide) (by decide) (by decide), k.1 12 (by decide) (by decide) (by decide)]
    exact c
theorem MCa.i {σ : Sto} {N S : Nat} {P : Nat → Nat → Nat → Nat} (h : MCa σ N S P) {k j : Nat} {x : Int32} (hk : k ≠ 10) : MCa (sI σ k j x) N S P := h.cong (by rw [sI_o _ _ _ (fun q => hk q.symm)]) rfl rfl
theorem iz_nat (n : Nat) : nI n = iz (n : Int) := by
  unfold nI iz
  exact Int32.ofInt_eq_ofNat.symm
/-- the greater share, by the least numbers of both -/
theorem cmp_share {a A b : Nat} (hb : 0 < b) : (a / Nat.gcd a b) * (b / Nat.gcd A b) ≤ (A / Nat.gcd A b) * (b / Nat.gcd a b) ↔ a ≤ A := by
  have g1 : 0 < Nat.gcd a b := Nat.gcd_pos_of_pos_right _ hb
  have g2 : 0 < Nat.gcd A b := Nat.gcd_pos_of_pos_right _ hb
  obtain ⟨x, hx⟩ := Nat.gcd_dvd_left a b
  obtain ⟨y, hy⟩ := Nat.gcd_dvd_right a b
  obtain ⟨X, hX⟩ := Nat.gcd_dvd_left A b
  obtain ⟨Y, hY⟩ := Nat.gcd_dvd_right A b
  have ex : a / Nat.gcd a b = x := Nat.div_eq_of_eq_mul_right g1 hx
  have ey : b / Nat.gcd a b = y := Nat.div_eq_of_eq_mul_right g1 hy
  have eX : A / Nat.gcd A b = X := Nat.div_eq_of_eq_mul_right g2 hX
  have eY : b / Nat.gcd A b = Y := Nat.div_eq_of_eq_mul_right g2 hY
  rw [ex, ey, eX, eY]
  generalize hp : Nat.gcd a b = p at *
  generalize hP : Nat.gcd A b = P at *
  have k1 : (p * P) * (x * Y) = a * b := by
    calc (p * P) * (x * Y) = (p * x) * (P * Y) := by rw [Nat.mul_assoc, Nat.mul_left_comm P x Y, ← Nat.mul_assoc]
      _ = a * b := by rw [← hx, ← hY]
  have k2 : (p * P) * (X * y) = A * b := by
    calc (p * P) * (X * y) = (P * X) * (p * y) := by rw [Nat.mul_comm p P, Nat.mul_assoc, Nat.mul_left_comm p X y, ← Nat.mul_assoc]
      _ = A * b := by rw [← hX, ← hy]
  have hpP : 0 < p * P := Nat.mul_pos g1 g2
  constructor
  · intro h
    have := Nat.mul_le_mul_left (p * P) h
    rw [k1, k2] at this
    exact Nat.le_of_mul_le_mul_right this hb
  · intro h
    have := Nat.mul_le_mul_right b h
    rw [← k1, ← k2] at this
    exact Nat.le_of_mul_le_mul_left this hpP
set_option maxHeartbeats 4000000 in
theorem mLearn_ok {σ : Sto} {g : GS} {bits top : Int32} {Post : Int32 → Sto → Prop} (h : MI σ g) (hp : ∀ σ' : Sto, MI σ' (gLearn g bits top) → Post (rLearn g bits top) σ') : X8_learn_wp σ bits top Post := by
  intro K29 K74 K130 K153 K169 K250 K290 h29 h74 h130 h153 h169 h250 h290
  unfold gLearn rLearn at hp
  have bad : okLn bits top = false → Post (-2 : Int32) σ := by
    intro z
    rw [z, if_neg (fun q => absurd q.1 (by decide)), if_neg (by decide)] at hp
    exact hp σ h
  have badN : ¬ (¬ bits ≤ 0 ∧ ¬ 2048 ≤ bits ∧ ¬ top < 1 ∧ top ≤ 3) → Post (-2 : Int32) σ := fun q => bad (by unfold okLn; rw [decide_eq_false q]; rfl)
  refine ⟨fun c => badN (fun z => z.1 c), fun c1 => ⟨fun c => badN (fun z => z.2.1 c), fun c2 => ⟨fun c => badN (fun z => z.2.2.1 c), fun c3 => ⟨fun c4 => ?_, fun c => badN (fun z => c z.2.2.2)⟩⟩⟩⟩
  obtain ⟨eB, B0, B1, eT, T0, T1⟩ := okLn_spec ⟨c1, c2, c3, c4⟩
  have okd : okLn bits top = decide (cnt 11 (btb (nn bits)) ≤ 3) := by
    unfold okLn
    rw [decide_eq_true ⟨c1, c2, c3, c4⟩]
    rfl
  rw [okd] at hp bad
  generalize nn bits = B at *
  generalize nn top = T at *
  subst eB
  subst eT
  clear c1 c2 c3 c4 badN okd
  -- the bits are counted
  refine down (fun i => K29 σ (nI (cnt i (btb B))) (nI i)) 11 ?_ (fun i hi ih => ?_)
  rotate_left
  · apply h29
    refine ⟨fun hn => absurd hn (nI_ge (b := 11) (show i < 11 by omega) (by omega)), fun _ => ?_⟩
    rw [bit_ok (by omega) hi]
    rw [← nI_1] at ih
    cases hb : btb B i
    · rw [cnt_f hb] at ih
      rw [b2iF, nI_p0]
      exact ih
    · rw [cnt_t hb, ← nI_1] at ih
      exact ih
  have hM11 := cnt_le 11 (btb B)
  have wh : ∀ i, i < cnt 11 (btb B) → btb B (nth (btb B) 11 i) = true ∧ nth (btb B) 11 i < 11 ∧ cnt (nth (btb B) 11 i) (btb B) = i := fun i hi => nth_spec 11 i hi
  have whc : ∀ j, j < 11 → btb B j = true → cnt j (btb B) < cnt 11 (btb B) ∧ nth (btb B) 11 (cnt j (btb B)) = j := by
    intro j hj hb
    refine ⟨?_, nth_cnt hb 11 hj⟩
    have := cnt_mono_n (btb B) (show j + 1 ≤ 11 by omega)
    rw [cnt_t hb] at this
    omega
  generalize hMe : cnt 11 (btb B) = M at *
  apply h29
  refine ⟨fun _ => ?_, fun hn => absurd (by decide) hn⟩
  refine pk_le M 3 (fun hM => ?_) (fun hM => bad (decide_eq_false (by omega)))
  rw [decide_eq_true hM] at hp
  refine parted_ok h.1 h.2.1 h.2.2.1 (fun τ mp => ?_)
  obtain ⟨ks, ca, -⟩ := mp
  refine b2i_if _ (fun hb => ?_) (fun hb => ?_)
  rotate_left
  · have q : ¬ (0 < nF g ∧ 0 < nE g) := fun z => by
      rw [decide_eq_true (show 0 < cnt 144 (isF (gN g) (gS g) (gar g) (ghid g)) from z.1), decide_eq_true (show 0 < cnt 144 (isE (gN g) (gS g) (gar g) (ghid g)) from z.2)] at hb
      cases hb
    have z : okSh g = false := decide_eq_false q
    rw [z, if_neg (fun q => absurd q.2 (by decide)), if_pos rfl, if_neg (by decide)] at hp
    exact hp τ (h.ks ks ca)
  rw [Bool.and_eq_true, decide_eq_true_eq, decide_eq_true_eq] at hb
  have hF0 : 0 < nF g := hb.1
  have hE0 : 0 < nE g := hb.2
  have oks : okSh g = true := decide_eq_true hb
  rw [oks, if_pos ⟨rfl, rfl⟩, if_pos rfl, if_pos rfl] at hp
  have b1 : nF g ≤ 132 := isF_le (Nat.le_refl 144)
  have b2 : nE g ≤ 132 := isE_le (Nat.le_refl 144)
  have bden : 0 < 2 * nF g * nE g := Nat.mul_pos (Nat.mul_pos (by decide) hF0) hE0
  have bden2 : 2 * nF g * nE g ≤ 2 * 132 * 132 := Nat.mul_le_mul (Nat.mul_le_mul_left 2 b1) b2
  have kl0 := ks.kl
  clear ks hb bad
  -- powers of the base
  have hbase : 2 ≤ T + 1 := by omega
  have hpw : ∀ k, k ≤ 3 → (T + 1) ^ k ≤ 64 ∧ 0 < (T + 1) ^ k := by
    intro k hk
    refine ⟨?_, Nat.pow_pos (by omega)⟩
    calc (T + 1) ^ k ≤ 4 ^ k := Nat.pow_le_pow_left (by omega) k
      _ ≤ 4 ^ 3 := Nat.pow_le_pow_right (by decide) hk
      _ = 64 := by decide
  -- what holds from here on
  let Z : Sto → Prop := fun υ => KL σ υ ∧ MCa υ (gN g) (gS g) (gP g) ∧ (∀ i, i < M → υ.1 18 i = nI (nth (btb B) 11 i)) ∧ (∀ j, j < 11 → btb B j = false → υ.1 7 j = 0)
  have shl : ∀ c, shT g B (T + 1) c ≤ 132 * (132 * 2) := fun c => Nat.le_trans (shr_le _ _ _ _) (Nat.mul_le_mul b1 (Nat.mul_le_mul_right 2 b2))
  -- the weights of the best are laid, the end
  have final : ∀ (υ : Sto) (a : Nat), Z υ → a = shT g B (T + 1) (bestT g B (T + 1)) → (∀ k, k < M → υ.1 19 k = nI (dgt (T + 1) M (bestT g B (T + 1)) k)) → K290 υ (nI M) (lz (a / Nat.gcd a (2 * nF g * nE g) : Nat)) (lz (2 * nF g * nE g / Nat.gcd a (2 * nF g * nE g) : Nat)) 0 := by
    intro υ a z ha e19
    have loop : ∀ j i, i + j = M → ∀ υ : Sto, Z υ → (∀ k, k < M → υ.1 19 k = nI (dgt (T + 1) M (bestT g B (T + 1)) k)) → (∀ j, j < 11 → btb B j = true → cnt j (btb B) < i → υ.1 7 j = nI (dgt (T + 1) M (bestT g B (T + 1)) (cnt j (btb B)))) → K290 υ (nI M) (lz (a / Nat.gcd a (2 * nF g * nE g) : Nat)) (lz (2 * nF g * nE g / Nat.gcd a (2 * nF g * nE g) : Nat)) (nI i) := by
      intro j
      induction j with
      | zero =>
        intro i hi υ z e19 e7
        have hi : i = M := hi
        subst hi
        apply h290
        unfold X8_learn_b290
        refine pk_le i i (fun _ => ?_) (fun q => by omega)
        have hwt : MWt υ.1 (wtT B (T + 1) (bestT g B (T + 1))) := by
          intro j hj
          unfold wtT
          cases hb : btb B j
          · rw [if_neg (by decide), z.2.2.2 j hj hb]
            exact ⟨rfl, by decide, by decide⟩
          · have hcj := (whc j hj hb).1
            rw [if_pos rfl, e7 j hj hb hcj, hMe, iz_nat]
            have : dgt (T + 1) i (bestT g B (T + 1)) (cnt j (btb B)) < T + 1 := Nat.mod_lt _ (by omega)
            exact ⟨rfl, by omega, by omega⟩
        refine hp _ ?_
        rw [← ha]
        have q16 : (sJ (sJ υ 0 16 (lz (a / Nat.gcd a (2 * nF g * nE g) : Nat))) 0 17 (lz (2 * nF g * nE g / Nat.gcd a (2 * nF g * nE g) : Nat))).2 0 16 = lz (a / Nat.gcd a (2 * nF g * nE g) : Nat) := by rw [sJ_n _ _ _ (by decide), sJ_e]
        have q17 : (sJ (sJ υ 0 16 (lz (a / Nat.gcd a (2 * nF g * nE g) : Nat))) 0 17 (lz (2 * nF g * nE g / Nat.gcd a (2 * nF g * nE g) : Nat))).2 0 17 = lz (2 * nF g * nE g / Nat.gcd a (2 * nF g * nE g) : Nat) := by rw [sJ_e]
        refine ⟨h.1.kl (σ := σ) (τ := υ) z.1, z.2.1.cong rfl (by rw [sJ_o _ _ _ (by decide), sJ_o _ _ _ (by decide)]) (by rw [sJ_o _ _ _ (by decide), sJ_o _ _ _ (by decide)]), hwt, ?_, ?_, q16, q17, h.2.2.2.2.2.2.2⟩
        · show υ.1 0 7 = _
          rw [z.1.1 7 (by decide) (by decide) (by decide)]
          exact h.2.2.2.1
        · show ∀ k, k < gc g → υ.1 4 k = gtm g k
          rw [z.1.2.1 4 (by decide) (by decide)]
          exact h.2.2.2.2.1
      | succ j ih =>
        intro i hi υ z e19 e7
        have hw := wh i (by omega)
        apply h290
        unfold X8_learn_b290
        have v3 : vp_in (nI i) 3 := vp_in_nI (by omega) (by decide)
        rw [nI_clamp (by omega), z.2.2.1 i (by omega), nI_clamp (by omega), e19 i (by omega), nI_1]
        refine pk_le M i (fun q => by omega) (fun q => ⟨v3, v3, vp_in_nI (by omega) (by decide), ?_⟩)
        refine ih (i + 1) (by omega) _ ⟨z.1.tr (KL.i (by decide)), z.2.1.i (by decide), fun k hk => by rw [sI_o _ _ _ (by decide)]; exact z.2.2.1 k hk, fun k hk hbk => ?_⟩ (fun k hk => by rw [sI_o _ _ _ (by decide)]; exact e19 k hk) (fun k hk hbk hck => ?_)
        · rw [sI_n _ _ _ (fun q => by rw [q, hw.1] at hbk; cases hbk)]
          exact z.2.2.2 k hk hbk
        · by_cases q : k = nth (btb B) 11 i
          · rw [q, sI_e, hw.2.2]
          · rw [sI_n _ _ _ q]
            refine e7 k hk hbk ?_
            rcases Nat.lt_or_ge (cnt k (btb B)) i with y | y
            · exact y
            · have : cnt k (btb B) = i := by omega
              exact absurd (by rw [← this]; exact (whc k hk hbk).2.symm) q
    have := loop M 0 (by omega) υ z e19 (fun j _ _ hc => by omega)
    exact this
  -- what is known of the best at trial c
  let Q : Nat → Int64 → Int64 → Sto → Prop := fun c x y υ => (c = 0 ∧ x = lz (-1) ∧ y = lz 1) ∨ (0 < c ∧ x = lz (shT g B (T + 1) (bstA (shT g B (T + 1)) c) / Nat.gcd (shT g B (T + 1) (bstA (shT g B (T + 1)) c)) (2 * nF g * nE g) : Nat) ∧ y = lz (2 * nF g * nE g / Nat.gcd (shT g B (T + 1) (bstA (shT g B (T + 1)) c)) (2 * nF g * nE g) : Nat) ∧ ∀ k, k < M → υ.1 19 k = nI (dgt (T + 1) M (bstA (shT g B (T + 1)) c) k))
  have hall := hpw M hM
  have trials : ∀ j c, c + j = (T + 1) ^ M → ∀ (υ : Sto) (x y : Int64), Z υ → Q c x y υ → K153 υ (nI M) x y (nI ((T + 1) ^ M)) (nI c) := by
    intro j
    induction j with
    | zero =>
      intro c hc υ x y z q
      have hc : c = (T + 1) ^ M := hc
      apply h153
      unfold X8_learn_b153
      refine pk_le ((T + 1) ^ M) c (fun _ => ?_) (fun r => by omega)
      rcases q with q | q
      · omega
      · have ebest : bstA (shT g B (T + 1)) c = bestT g B (T + 1) := by
          unfold bestT trl
          rw [hMe, hc]
        rw [ebest] at q
        rw [q.2.1, q.2.2.1]
        exact final υ _ z rfl q.2.2.2
    | succ j ih =>
      intro c hc υ x y z q
      apply h153
      unfold X8_learn_b153
      refine pk_le ((T + 1) ^ M) c (fun r => by omega) (fun _ => ?_)
      have hcl : c < 64 := by omega
      -- the weights of the trial are laid
      have digits : ∀ k, k ≤ M → ∀ υ : Sto, Z υ → Q c x y υ → (∀ j, j < 11 → btb B j = true → k ≤ cnt j (btb B) → υ.1 7 j = nI (dgt (T + 1) M c (cnt j (btb B)))) → K169 υ (nI M) x y (nI ((T + 1) ^ M)) (nI c) (nI (c / (T + 1) ^ (M - k))) (nI k - 1) := by
        intro k
        induction k with
        | zero =>
          intro _ υ z q e7
          apply h169
          unfold X8_learn_b169
          refine ⟨fun _ => ?_, fun hn => absurd (show nI 0 - 1 < (0 : Int32) by decide) hn⟩
          have hwt : MWt υ.1 (wtT B (T + 1) c) := by
            intro j hj
            unfold wtT
            cases hb : btb B j
            · rw [if_neg (by decide), z.2.2.2 j hj hb]
              exact ⟨rfl, by decide, by decide⟩
            · rw [if_pos rfl, e7 j hj hb (Nat.zero_le _), hMe, iz_nat]
              have : dgt (T + 1) M c (cnt j (btb B)) < T + 1 := Nat.mod_lt _ (by omega)
              exact ⟨rfl, by omega, by omega⟩
          refine shares_ok (h.1.kl z.1) z.2.1 hwt (fun q => absurd ⟨hF0, hE0⟩ q) (fun _ _ ω a b ea eb ks ca et ebt => ⟨fun r => absurd r (by decide), fun _ => ?_⟩)
          have ea : a = shT g B (T + 1) c := ea
          have eb : b = 2 * nF g * nE g := eb
          have zω : Z ω := ⟨z.1.tr ks.kl, ca, fun i hi => by rw [ks.2.2.2.2 18 (by decide)]; exact z.2.2.1 i hi, fun j hj hb => by rw [ks.2.1 7 (by decide) (by decide)]; exact z.2.2.2 j hj hb⟩
          have e19 : ω.1 19 = υ.1 19 := ks.2.2.2.2 19 (by decide)
          have e7ω : ∀ j, j < 11 → btb B j = true → ω.1 7 j = nI (dgt (T + 1) M c (cnt j (btb B))) := fun j hj hb => by rw [ks.2.1 7 (by decide) (by decide)]; exact e7 j hj hb (Nat.zero_le _)
          have sc := shl c
          have g1 : 0 < Nat.gcd a b := Nat.gcd_pos_of_pos_right _ (by omega)
          have da : a / Nat.gcd a b ≤ a := Nat.div_le_self _ _
          have db : b / Nat.gcd a b ≤ b := Nat.div_le_self _ _
          have db0 : 0 < b / Nat.gcd a b := Nat.div_pos (Nat.le_of_dvd (by omega) (Nat.gcd_dvd_right _ _)) g1
          -- the trial is kept as the best
          have keep : bstA (shT g B (T + 1)) (c + 1) = c → K250 ω (nI M) (lz (a / Nat.gcd a b : Nat)) (lz (b / Nat.gcd a b : Nat)) (nI ((T + 1) ^ M)) (nI c) 0 := by
            intro hbest
            have loop : ∀ j2 i, i + j2 = M → ∀ υ : Sto, Z υ → (∀ j, j < 11 → btb B j = true → υ.1 7 j = nI (dgt (T + 1) M c (cnt j (btb B)))) → (∀ k, k < i → υ.1 19 k = nI (dgt (T + 1) M c k)) → K250 υ (nI M) (lz (a / Nat.gcd a b : Nat)) (lz (b / Nat.gcd a b : Nat)) (nI ((T + 1) ^ M)) (nI c) (nI i) := by
              intro j2
              induction j2 with
              | zero =>
                intro i hi υ z e7 e19
                have hi : i = M := hi
                apply h250
                unfold X8_learn_b250
                refine pk_le M i (fun _ => ?_) (fun r => by omega)
                rw [nI_1]
                refine ih (c + 1) (by omega) υ _ _ z (Or.inr ⟨by omega, ?_, ?_, fun k hk => ?_⟩)
                · rw [hbest, ← ea, ← eb]
                · rw [hbest, ← ea, ← eb]
                · rw [hbest]
                  exact e19 k (by omega)
              | succ j2 ih2 =>
                intro i hi υ z e7 e19
                have hw := wh i (by omega)
                apply h250
                unfold X8_learn_b250
                have v3 : vp_in (nI i) 3 := vp_in_nI (by omega) (by decide)
                rw [nI_clamp (by omega), z.2.2.1 i (by omega), nI_clamp (by omega), e7 _ hw.2.1 hw.1, hw.2.2, nI_1 i]
                refine pk_le M i (fun r => by omega) (fun r => ⟨v3, vp_in_nI (by omega) (by decide), v3, ?_⟩)
                refine ih2 (i + 1) (by omega) (sI υ 19 i (nI (dgt (T + 1) M c i))) ⟨z.1.tr (KL.i (by decide)), z.2.1.i (by decide), fun k hk => by rw [sI_o _ _ _ (by decide)]; exact z.2.2.1 k hk, fun k hk hbk => by rw [sI_o _ _ _ (by decide)]; exact z.2.2.2 k hk hbk⟩ (fun k hk hbk => by rw [sI_o _ _ _ (by decide)]; exact e7 k hk hbk) (fun k hk => ?_)
                by_cases r : k = i
                · rw [r, sI_e]
                · rw [sI_n _ _ _ r]
                  exact e19 k (by omega)
            exact loop M 0 (by omega) ω zω e7ω (fun k hk => by omega)
          rw [et, ebt, lg_cmp_le]
          rcases q with q | q
          · have kb := keep (by rw [q.1]; rfl)
            clear keep
            rw [q.2.1, q.2.2]
            generalize a / Nat.gcd a b = u at *
            generalize b / Nat.gcd a b = w at *
            rw [lz_mul, lz_mul, lz_le (by omega) (by omega) (by omega) (by omega)]
            exact ⟨fun r => by omega, fun _ => kb⟩
          · have sA := shl (bstA (shT g B (T + 1)) c)
            rw [q.2.1, q.2.2.1]
            generalize hA : shT g B (T + 1) (bstA (shT g B (T + 1)) c) = A at *
            have dA : A / Nat.gcd A (2 * nF g * nE g) ≤ A := Nat.div_le_self _ _
            have dB : 2 * nF g * nE g / Nat.gcd A (2 * nF g * nE g) ≤ 2 * nF g * nE g := Nat.div_le_self _ _
            rw [lz_mul, lz_mul, ← Int.natCast_mul, ← Int.natCast_mul]
            have m1 : (a / Nat.gcd a b) * (2 * nF g * nE g / Nat.gcd A (2 * nF g * nE g)) ≤ (132 * (132 * 2)) * (2 * 132 * 132) := Nat.mul_le_mul (by omega) (by omega)
            have m2 : (A / Nat.gcd A (2 * nF g * nE g)) * (b / Nat.gcd a b) ≤ (132 * (132 * 2)) * (2 * 132 * 132) := Nat.mul_le_mul (by omega) (by omega)
            have cs := cmp_share (a := a) (A := A) bden
            rw [← eb] at cs
            rw [← eb] at m1 m2 ⊢
            rw [lz_le (by omega) (by omega) (by omega) (by omega)]
            have hstep : bstA (shT g B (T + 1)) (c + 1) = if shT g B (T + 1) (bstA (shT g B (T + 1)) c) < shT g B (T + 1) c then c else bstA (shT g B (T + 1)) c := by
              show (if c = 0 then 0 else _) = _
              rw [if_neg (by omega)]
            rw [hA, ← ea] at hstep
            refine ⟨fun r => ?_, fun r => ?_⟩
            · have hle : a ≤ A := cs.mp (by omega)
              rw [if_neg (by omega)] at hstep
              have := ih (c + 1) (by omega) ω _ _ zω (Or.inr ⟨by omega, rfl, rfl, fun k hk => ?_⟩)
              · rw [hstep, hA, ← nI_1] at this
                rw [eb]
                exact this
              · rw [hstep, e19]
                exact q.2.2.2 k hk
            · have hgt : A < a := by
                rcases Nat.lt_or_ge A a with y2 | y2
                · exact y2
                · exact absurd (by have := cs.mpr y2; omega) r
              rw [if_pos hgt] at hstep
              exact keep hstep
        | succ k ihk =>
          intro hk υ z q e7
          have hw := wh k (by omega)
          have pw := hpw (M - (k + 1)) (by omega)
          have hdl : c / (T + 1) ^ (M - (k + 1)) ≤ c := Nat.div_le_self _ _
          apply h169
          unfold X8_learn_b169
          rw [nI_pred]
          have v3 : vp_in (nI k) 3 := vp_in_nI (by omega) (by decide)
          have nz : ¬ nI T + 1 = 0 := by
            rw [nI_1]
            exact nI_ne0 (by omega) (by omega)
          refine ⟨fun hn => absurd hn (nI_pos (by omega)), fun _ => ⟨v3, nz, ?_⟩⟩
          rw [nI_clamp (by omega), z.2.2.1 k (by omega), nI_clamp (by omega), nI_1, pk_rem (by omega) (by omega) (by omega), pk_div (by omega) (by omega) (by omega)]
          refine ⟨vp_in_nI (by omega) (by decide), by rw [← nI_1]; exact nz, ?_⟩
          have ed : c / (T + 1) ^ (M - (k + 1)) / (T + 1) = c / (T + 1) ^ (M - k) := by
            rw [Nat.div_div_eq_div_mul, ← Nat.pow_succ, show (M - (k + 1)).succ = M - k by omega]
          have eg : c / (T + 1) ^ (M - (k + 1)) % (T + 1) = dgt (T + 1) M c k := by
            unfold dgt
            rw [show M - 1 - k = M - (k + 1) by omega]
          rw [ed, eg, show nI k + (-1) = nI k - 1 from (Int32.sub_eq_add_neg _ _).symm]
          refine ihk (by omega) _ ⟨z.1.tr (KL.i (by decide)), z.2.1.i (by decide), fun i hi => by rw [sI_o _ _ _ (by decide)]; exact z.2.2.1 i hi, fun j hj hbj => ?_⟩ ?_ (fun j hj hbj hcj => ?_)
          · rw [sI_n _ _ _ (fun r => by rw [r, hw.1] at hbj; cases hbj)]
            exact z.2.2.2 j hj hbj
          · rcases q with q | q
            · exact Or.inl q
            · exact Or.inr ⟨q.1, q.2.1, q.2.2.1, fun i hi => by rw [sI_o _ _ _ (by decide)]; exact q.2.2.2 i hi⟩
          · by_cases r : j = nth (btb B) 11 k
            · rw [r, sI_e, hw.2.2]
            · rw [sI_n _ _ _ r]
              refine e7 j hj hbj ?_
              rcases Nat.lt_or_ge k (cnt j (btb B)) with y2 | y2
              · exact y2
              · have : cnt j (btb B) = k := by omega
                exact absurd (by rw [← this]; exact (whc j hj hbj).2.symm) r
      have := digits M (Nat.le_refl M) υ z q (fun j hj hb hc2 => by have := (whc j hj hb).1; omega)
      rw [Nat.sub_self, Nat.pow_zero, Nat.div_one] at this
      exact this
  -- how many trials
  have pows : ∀ υ : Sto, Z υ → K130 υ (nI M) (-1 : Int64) (1 : Int64) (1 : Int32) (0 : Int32) := by
    intro υ z
    have := down (fun i => K130 υ (nI M) (lz (-1)) (lz 1) (nI ((T + 1) ^ i)) (nI i)) M ?_ (fun i hi ih => ?_)
    · exact this
    · apply h130
      unfold X8_learn_b130
      refine pk_le M M (fun _ => ?_) (fun r => by omega)
      exact trials ((T + 1) ^ M) 0 (by omega) υ _ _ z (Or.inl ⟨rfl, rfl, rfl⟩)
    · apply h130
      unfold X8_learn_b130
      refine pk_le M i (fun r => by omega) (fun _ => ?_)
      rw [nI_1, nI_1, pk_mul, ← Nat.pow_succ]
      exact ih
  -- the measures that are learned
  have chosen : ∀ j i, i + j = 11 → ∀ υ : Sto, KL σ υ → MCa υ (gN g) (gS g) (gP g) → (∀ k, k < cnt i (btb B) → υ.1 18 k = nI (nth (btb B) 11 k)) → (∀ k, k < i → υ.1 7 k = 0) → K74 υ (nI (cnt i (btb B))) (nI i) := by
    intro j
    induction j with
    | zero =>
      intro i hi υ kl ca e18 e7
      have hi : i = 11 := hi
      subst hi
      rw [hMe] at e18 ⊢
      apply h74
      exact ⟨fun _ => pows υ ⟨kl, ca, e18, fun j hj _ => e7 j hj⟩, fun hn => absurd (by decide) hn⟩
    | succ j ih =>
      intro i hi υ kl ca e18 e7
      apply h74
      unfold X8_learn_b74
      rw [bit_ok (by omega) (show i < 11 by omega), nI_clamp (by omega)]
      refine ⟨fun hn => absurd hn (nI_ge (b := 11) (show i < 11 by omega) (by omega)), fun _ => ⟨vp_in_nI (by omega) (by decide), fun hne => ?_, fun he => ?_⟩⟩
      · have hb : btb B i = false := by
          cases e : btb B i
          · rfl
          · exact absurd (by rw [e]; rfl) hne
        have := ih (i + 1) (by omega) (sI υ 7 i 0) (kl.tr (KL.i (by decide))) (ca.i (by decide)) (fun k hk => ?_) (fun k hk => ?_)
        · rw [cnt_f hb, ← nI_1] at this
          exact this
        · rw [cnt_f hb] at hk
          rw [sI_o _ _ _ (by decide)]
          exact e18 k hk
        · by_cases r : k = i
          · rw [r, sI_e]
          · rw [sI_n _ _ _ r]
            exact e7 k (by omega)
      · have hb : btb B i = true := by
          cases e : btb B i
          · rw [e] at he
            exact absurd he (by decide)
          · rfl
        have hci := (whc i (by omega) hb).1
        rw [nI_clamp (by omega)]
        refine ⟨vp_in_nI (by omega) (by decide), ?_⟩
        have := ih (i + 1) (by omega) (sI (sI υ 7 i 0) 18 (cnt i (btb B)) (nI i)) ((kl.tr (KL.i (by decide))).tr (KL.i (by decide))) ((ca.i (by decide)).i (by decide)) (fun k hk => ?_) (fun k hk => ?_)
        · rw [cnt_t hb, ← nI_1, ← nI_1] at this
          exact this
        · rw [cnt_t hb] at hk
          by_cases r : k = cnt i (btb B)
          · rw [r, sI_e, (whc i (by omega) hb).2]
          · rw [sI_n _ _ _ r, sI_o _ _ _ (by decide)]
            exact e18 k (by omega)
        · rw [sI_o _ _ _ (by decide)]
          by_cases r : k = i
          · rw [r, sI_e]
          · rw [sI_n _ _ _ r]
            exact e7 k (by omega)
  exact chosen 11 0 rfl τ kl0 ca (fun k hk => by simp [cnt] at hk) (fun k hk => by omega)
