/-! the reference's mix and compare -/
def iz (z : Int) : Int32 := Int32.ofInt z
theorem iz_toInt {z : Int} (h1 : -2 ^ 31 ≤ z) (h2 : z < 2 ^ 31) : (iz z).toInt = z := by
  unfold iz
  rw [Int32.toInt_ofInt]
  exact Kit.bmod32 h1 h2
theorem iz_lz {z : Int} (h1 : -2 ^ 31 ≤ z) (h2 : z < 2 ^ 31) : (iz z).toInt64 = lz z := by
  apply lz_ext
  rw [Int32.toInt_toInt64, iz_toInt h1 h2]
theorem iz_0 {z : Int} (h1 : -2 ^ 31 ≤ z) (h2 : z < 2 ^ 31) : iz z = 0 ↔ z = 0 := by
  constructor
  · intro e
    rw [← iz_toInt h1 h2, e]
    rfl
  · intro e
    rw [e]
    rfl
def MWt (I : Nat → Nat → Int32) (wt : Nat → Int) : Prop := ∀ k, k < 11 → I 7 k = iz (wt k) ∧ -99 ≤ wt k ∧ wt k ≤ 99
def mixv (P : Nat → Nat → Nat → Nat) (wt : Nat → Int) (a b : Nat) : Int := smI 11 (fun k => wt k * (P k a b : Int))
theorem prt_le {N S : Nat} {le : Nat → Nat → Bool} {grp : Nat → Nat} {v w s : Nat} (hN : N ≤ 12) (hv : v ≤ 9) (hw : w ≤ 9) (k a b : Nat) : prt N S le grp v w s k a b ≤ 1404 * SC := by
  have hM := cnt_le N (fun x => le a x && inB N S le x b)
  have c4 : N * N ≤ 12 * 12 := Nat.mul_le_mul hN hN
  unfold prt
  split
  · exact Nat.mul_le_mul_right SC (by omega)
  · exact Nat.le_trans (dv_le _ _) (Nat.mul_le_mul_right SC (by omega))
  · exact Nat.le_trans (dv_le _ _) (Nat.mul_le_mul_right SC (by omega))
  · exact Nat.le_trans (dv_le _ _) (Nat.mul_le_mul_right SC (by omega))
  · exact Nat.le_trans (dv_le _ _) (Nat.mul_le_mul_right SC (by omega))
  · have := smN_le (n := N) (b := SC) (f := fun x => if le a x && inB N S le x b then dv 1 (cnt N (le x)) else 0) (fun j _ => by
      show (if le a j && inB N S le j b then dv 1 (cnt N (le j)) else 0) ≤ SC
      split
      · exact Nat.le_trans (dv_le _ _) (by omega)
      · exact Nat.zero_le _)
    exact Nat.le_trans this (Nat.mul_le_mul_right SC (by omega))
  · have c1 := cnt_le N (le a)
    have c2 := cnt_le N (fun y => le y b)
    have c3 := Nat.mul_le_mul c1 c2
    exact Nat.mul_le_mul_right SC (by omega)
  · have c1 := wk2_le (N := N) le a b
    have c2 := wk3_le (N := N) le a b
    have c5 : v * wk2 N le a b ≤ 9 * 12 := Nat.mul_le_mul hv (by omega)
    have c6 : w * wk3 N le a b ≤ 9 * 144 := Nat.mul_le_mul hw (by omega)
    exact Nat.mul_le_mul_right SC (by omega)
  · exact Nat.le_trans (dv_le _ _) (Nat.mul_le_mul_right SC (by omega))
  · split
    · refine Nat.le_trans (dv_le _ _) (Nat.mul_le_mul_right SC ?_)
      split <;> omega
    · have := smN_le (n := N) (b := SC) (f := fun x => if le a x && le x b then dv 1 (cnt N (le a) * cnt N (le x)) else 0) (fun j _ => by
        show (if le a j && le j b then dv 1 (cnt N (le a) * cnt N (le j)) else 0) ≤ SC
        split
        · exact Nat.le_trans (dv_le _ _) (by omega)
        · exact Nat.zero_le _)
      exact Nat.le_trans this (Nat.mul_le_mul_right SC (by omega))
  · have c3 := smN_le (n := N) (b := 12) (f := fun x => cnt N (fun y => le x y && (decide (grp x = grp a) && decide (grp y = grp b)))) (fun j _ => Nat.le_trans (cnt_le N _) hN)
    exact Nat.le_trans (dv_le _ _) (Nat.mul_le_mul_right SC (by omega))
theorem wmul_le {z : Int} {p : Nat} (h1 : -99 ≤ z) (h2 : z ≤ 99) (hp : p ≤ 1404 * SC) : (z * (p : Int)).natAbs ≤ 99 * (1404 * SC) := by
  rw [Int.natAbs_mul, Int.natAbs_natCast]
  exact Nat.mul_le_mul (by omega) hp
theorem smI_le {n b : Nat} {f : Nat → Int} (h : ∀ i, i < n → (f i).natAbs ≤ b) : (smI n f).natAbs ≤ n * b := by
  induction n with
  | zero => simp [smI]
  | succ n ih =>
    unfold smI
    have h1 := ih (fun i hi => h i (by omega))
    have h2 := h n (by omega)
    have h3 := Int.natAbs_add_le (smI n f) (f n)
    rw [Nat.succ_mul]
    omega
theorem mixp_le {P : Nat → Nat → Nat → Nat} {wt : Nat → Int} (hP : ∀ k a b, P k a b ≤ 1404 * SC) (hw : ∀ k, k < 11 → -99 ≤ wt k ∧ wt k ≤ 99) (a b : Nat) {n : Nat} (hn : n ≤ 11) : (smI n (fun k => wt k * (P k a b : Int))).natAbs ≤ n * (99 * (1404 * SC)) := smI_le (fun i hi => wmul_le (hw i (by omega)).1 (hw i (by omega)).2 (hP i a b))
theorem mixv_lt {P : Nat → Nat → Nat → Nat} {wt : Nat → Int} (hP : ∀ k a b, P k a b ≤ 1404 * SC) (hw : ∀ k, k < 11 → -99 ≤ wt k ∧ wt k ≤ 99) (a b : Nat) : (mixv P wt a b).natAbs < 2 ^ 63 := by
  have := mixp_le hP hw a b (Nat.le_refl 11)
  have e : SC = 3226504881600 := rfl
  unfold mixv
  omega
theorem MCa.frk {σ : Sto} {N S : Nat} {P : Nat → Nat → Nat → Nat} (h : MCa σ N S P) (Q : Int) : MCa (fr σ Q) N S P := by
  intro k hk
  rcases h k hk with q | q
  · exact Or.inl q
  · refine Or.inr (fun a b h1 h2 h3 => ?_)
    have e8 : ∀ i, (fr σ Q).2 8 i = σ.2 8 i := fun i => tb_o _ _ _ (fun e => absurd e.1 (by decide))
    have e9 : ∀ i, (fr σ Q).2 9 i = σ.2 9 i := fun i => tb_o _ _ _ (fun e => absurd e.1 (by decide))
    rw [e8, e9]
    exact q a b h1 h2 h3
section MX
variable {σ : Sto} {N S : Nat} {ar : Nat → Nat} {hid : Nat → Bool} {grp : Nat → Nat} {v w s : Nat} {wt : Nat → Int}
set_option maxHeartbeats 1000000 in
theorem mix_ok {a b : Nat} {Post : Sto → Prop} (h : MB σ.1 N S ar hid grp v w s) (hc : MCa σ N S (prt N S (lead ar hid) grp v w s)) (hw : MWt σ.1 wt) (ha : a < N) (hb : b < N) (hab : isP N S a b = true)
    (hp : ∀ σ' : Sto, Kp σ σ' → MCa σ' N S (prt N S (lead ar hid) grp v w s) → σ'.2 0 19 = lz (fT (mixv (prt N S (lead ar hid) grp v w s) wt a b)) → σ'.2 0 20 = lz (fB (mixv (prt N S (lead ar hid) grp v w s) wt a b)) → Post σ') : X8_mix_wp σ (nI a) (nI b) Post := by
  have hPl : ∀ k a b, prt N S (lead ar hid) grp v w s k a b ≤ 1404 * SC := prt_le h.1.2.2.1 h.2.2.1.2.1 h.2.2.1.2.2.2.1
  have hN := h.1.2.2.1
  intro K hK
  have hsc : SC = 3226504881600 := rfl
  have hw2 : ∀ k, k < 11 → -99 ≤ wt k ∧ wt k ≤ 99 := fun k hk => (hw k hk).2
  have mk : ∀ (τ : Sto) (Q : Int) {R : Sto → Prop}, Q.natAbs < 2 ^ 63 → R (fr τ Q) → X8_make_wp τ (lz (fT Q)) (lz (fB Q)) R := by
    intro τ Q R hQ hR
    have := fT_abs Q
    refine make_ok (by omega) (by omega) (fB_dvd Q) ?_
    rw [SC_div_fB, fT_mul]
    exact hR
  have loop : ∀ j i, i + j = 11 → ∀ τ : Sto, Kp σ τ → MCa τ N S (prt N S (lead ar hid) grp v w s) → K τ (lz (fT (smI i (fun k => wt k * (prt N S (lead ar hid) grp v w s k a b : Int))))) (lz (fB (smI i (fun k => wt k * (prt N S (lead ar hid) grp v w s k a b : Int))))) (nI i) := by
    intro j
    induction j with
    | zero =>
      intro i hi τ kp ca
      have hi : i = 11 := hi
      subst hi
      apply hK
      unfold X8_mix_b8
      refine ⟨fun _ => ?_, fun hn => absurd (by decide) hn⟩
      refine mk τ _ (mixv_lt hPl hw2 a b) ?_
      exact hp _ (kp.tr (Kp.fr _ _)) (ca.frk _) (fr_t _ _) (fr_b _ _)
    | succ j ih =>
      intro i hi τ kp ca
      have e7 : τ.1 7 = σ.1 7 := kp.1 7 (by decide) (by decide) (by decide)
      have hwi := hw i (by omega)
      apply hK
      unfold X8_mix_b8
      rw [nI_clamp (by omega), e7, hwi.1, iz_0 (by omega) (by omega), nI_1]
      have vk : vp_in (nI i) 11 := vp_in_nI (by omega) (by decide)
      have ihn := ih (i + 1) (by omega)
      refine ⟨fun hn => absurd hn (nI_ge (b := 11) (show i < 11 by omega) (by omega)), fun _ => ⟨vk, fun hz => ?_, fun hz => ?_⟩⟩
      · have := ihn τ kp ca
        rw [smI_s, hz, Int.zero_mul, Int.add_zero] at this
        exact this
      · refine known_ok (h.of kp) ca ha hb hab (by omega) (fun υ kυ cυ et eb => ⟨vk, ?_⟩)
        have e7' : υ.1 7 = σ.1 7 := (kυ.1 7 (by decide) (by decide) (by decide)).trans e7
        have hQ := mixp_le hPl hw2 a b (n := i) (by omega)
        generalize hQe : smI i (fun k => wt k * (prt N S (lead ar hid) grp v w s k a b : Int)) = Q at *
        have hQ11 : i * (99 * (1404 * SC)) ≤ 10 * (99 * (1404 * SC)) := Nat.mul_le_mul_right _ (by omega)
        refine mk υ Q (by omega) ?_
        rw [e7', hwi.1, iz_lz (by omega) (by omega), et, eb, lz_mul]
        have hwm := wmul_le hwi.2.1 hwi.2.2 (hPl i a b)
        have ihn := ihn (fr υ (Q + wt i * (prt N S (lead ar hid) grp v w s i a b : Int))) ((kp.tr kυ).tr (Kp.fr _ _)) (cυ.frk _)
        rw [smI_s, hQe] at ihn
        generalize prt N S (lead ar hid) grp v w s i a b = p at *
        have ef : fT (p : Int) * wt i * ((SC / fB (p : Int) : Nat) : Int) = wt i * (p : Int) := by
          rw [SC_div_fB, Int.mul_comm (fT (p : Int)) (wt i), Int.mul_assoc, fT_mul]
        refine plus_ok (fB_dvd _) ?_ ?_
        · have : ((fT (p : Int) * wt i).natAbs) * (SC / fB (p : Int)) = (wt i * (p : Int)).natAbs := by
            rw [← ef, Int.natAbs_mul (fT (p : Int) * wt i), Int.natAbs_natCast]
          rw [this]
          omega
        · rw [ef, fr_t, fr_b]
          exact ihn
  have := loop 11 0 rfl σ (Kp.rf σ) hc
  have e1 : fT 0 = 0 := Int.zero_ediv _
  have e2 : fB 0 = 1 := by decide +kernel
  have this : K σ (lz (fT 0)) (lz (fB 0)) (nI 0) := this
  rw [e1, e2] at this
  exact this
theorem compare_ok {p q : Nat} {P Q : Int} {Post : Int32 → Sto → Prop} (hp : p < 144) (hq : q < 144) (p1 : σ.2 14 p = lz (fT P)) (p2 : σ.2 15 p = lz (fB P)) (q1 : σ.2 14 q = lz (fT Q)) (q2 : σ.2 15 q = lz (fB Q)) (hP : P.natAbs < 2 ^ 63) (hQ : Q.natAbs < 2 ^ 63) (h1 : P < Q → Post (-1 : Int32) σ) (h2 : P = Q → Post (0 : Int32) σ) (h3 : Q < P → Post (1 : Int32) σ) : X8_compare_wp σ (nI p) (nI q) Post := by
  have hs := SC_lt
  have val : ∀ R : Int, lz (fT R) * ((3226504881600 : Int64) / lz (fB R)) = lz R := by
    intro R
    have b1 := fB_pos R
    have b2 := fB_le R
    rw [SC_lz, lz_div (by omega) (by omega) (by omega) (by omega), tdiv_exact (Int.natCast_dvd_natCast.mpr (fB_dvd R)), ← Int.natCast_ediv, SC_div_fB, lz_mul, fT_mul]
  have nz : ∀ R : Int, ¬ lz (fB R) = 0 := by
    intro R
    have b1 := fB_pos R
    have b2 := fB_le R
    rw [lz_0, lz_eq (by omega) (by omega) (by omega) (by omega)]
    omega
  unfold X8_compare_wp
  rw [nI_clamp (by omega), nI_clamp (by omega), p1, p2, q1, q2, val, val, lg_cmp_ge, lg_cmp_le, lz_le (by omega) (by omega) (by omega) (by omega), lz_le (by omega) (by omega) (by omega) (by omega)]
  have vp : vp_in (nI p) 144 := vp_in_nI hp (by decide)
  have vq : vp_in (nI q) 144 := vp_in_nI hq (by decide)
  refine ⟨vp, vp, nz _, vq, vq, nz _, fun hc => ⟨fun hd => h2 (by omega), fun hd => h3 (by omega)⟩, fun hc => h1 (by omega)⟩
end MX
