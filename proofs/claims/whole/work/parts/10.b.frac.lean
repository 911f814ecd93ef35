/-! the reference's fractions: common, make, plus -/
def tb (σ : Sto) (t b : Int64) : Sto := sJ (sJ σ 0 19 t) 0 20 b
def fr (σ : Sto) (P : Int) : Sto := tb σ (lz (fT P)) (lz (fB P))
theorem tb_1 (σ : Sto) (t b : Int64) : (tb σ t b).1 = σ.1 := rfl
theorem fr_1 (σ : Sto) (P : Int) : (fr σ P).1 = σ.1 := rfl
theorem tb_t (σ : Sto) (t b : Int64) : (tb σ t b).2 0 19 = t := by simp [tb, sJ]
theorem tb_b (σ : Sto) (t b : Int64) : (tb σ t b).2 0 20 = b := by simp [tb, sJ]
theorem tb_o (σ : Sto) (t b : Int64) {k j : Nat} (h : ¬ (k = 0 ∧ (j = 19 ∨ j = 20))) : (tb σ t b).2 k j = σ.2 k j := by
  simp only [tb, sJ]
  by_cases h1 : k = 0
  · subst h1
    have h2 : j ≠ 19 := fun e => h ⟨rfl, Or.inl e⟩
    have h3 : j ≠ 20 := fun e => h ⟨rfl, Or.inr e⟩
    simp [h2, h3]
  · simp [h1]
theorem tb_tb (σ : Sto) (t b t' b' : Int64) : tb (tb σ t b) t' b' = tb σ t' b' := by
  unfold tb sJ
  refine Prod.ext rfl (funext fun k => funext fun j => ?_)
  by_cases h1 : k = 0
  · subst h1
    by_cases h2 : j = 20
    · simp [h2]
    · by_cases h3 : j = 19
      · simp [h3]
      · simp [h2, h3]
  · simp [h1]
theorem fr_fr (σ : Sto) (P Q : Int) : fr (fr σ P) Q = fr σ Q := tb_tb _ _ _ _ _
theorem common_ok {σ : Sto} {a : Int} {b : Nat} {Post : Int64 → Sto → Prop} (ha1 : -2 ^ 63 < a) (ha2 : a < 2 ^ 63) (hb : b < 2 ^ 63) (h : Post (lz (Nat.gcd a.natAbs b : Nat)) σ) : X8_common_wp σ (lz a) (lz b) Post := by
  intro K hK
  have key : ∀ (y x : Nat), x < 2 ^ 63 → y < 2 ^ 63 → Nat.gcd x y = Nat.gcd a.natAbs b → K σ (lz x) (lz y) := by
    intro y
    induction y using Nat.strongRecOn with
    | ind y ih =>
      intro x hx hy hg
      apply hK
      unfold X8_common_b17
      rw [lg_cmp_eq, lz_0, lz_eq (by omega) (by omega) (by omega) (by omega)]
      refine ⟨fun hc => ?_, fun hc => ?_⟩
      · have h0 : y = 0 := by omega
        subst h0
        rw [Nat.gcd_zero_right] at hg
        rw [hg]
        exact h
      · have h0 : 0 < y := by omega
        refine ⟨fun hc2 => hc ?_, ?_⟩
        · exact hc2
        · rw [lz_rem (by omega) (by omega) (by omega) (by omega)]
          have e : ((x : Int) % (y : Int)) = ((x % y : Nat) : Int) := (Int.natCast_emod x y).symm
          rw [e]
          have hlt := Nat.mod_lt x h0
          refine ih (x % y) hlt y hy (by omega) ?_
          rw [← hg, Nat.gcd_comm x y]
          exact (Nat.gcd_rec y x).symm ▸ (by rw [Nat.gcd_comm])
  rw [lg_cmp_ge, lz_0, lz_le (by omega) (by omega) (by omega) (by omega)]
  refine ⟨fun hc => ?_, fun hc => ?_⟩
  · have e : a = (a.natAbs : Int) := by omega
    have := key b a.natAbs (by omega) hb rfl
    rw [← e] at this
    exact this
  · rw [lz_neg]
    have e : -a = (a.natAbs : Int) := by omega
    rw [e]
    exact key b a.natAbs (by omega) hb rfl
theorem tdiv_exact {a : Int} {g : Nat} (h : (g : Int) ∣ a) : a.tdiv g = a / g := Int.tdiv_eq_ediv_of_dvd h
theorem make_ok {σ : Sto} {a : Int} {b : Nat} {Post : Sto → Prop} (ha1 : -2 ^ 63 < a) (ha2 : a < 2 ^ 63) (hb : b ∣ SC) (h : Post (fr σ (a * ((SC / b : Nat) : Int)))) : X8_make_wp σ (lz a) (lz b) Post := by
  have hb0 : 0 < b := Nat.pos_of_dvd_of_pos hb SC_pos
  have hbl : b ≤ SC := Nat.le_of_dvd SC_pos hb
  have hs := SC_lt
  have hg0 : 0 < Nat.gcd a.natAbs b := Nat.gcd_pos_of_pos_right _ hb0
  have hgl : Nat.gcd a.natAbs b ≤ b := Nat.le_of_dvd hb0 (Nat.gcd_dvd_right _ _)
  unfold X8_make_wp
  rw [lg_cmp_eq, lz_0, lz_eq (by omega) (by omega) (by omega) (by omega)]
  refine ⟨fun hc => ?_, fun hc => ?_⟩
  · refine common_ok ha1 ha2 (by omega) ?_
    have hne : ¬ lz (Nat.gcd a.natAbs b : Nat) = lz 0 := by
      rw [lz_eq (by omega) (by omega) (by omega) (by omega)]
      omega
    refine ⟨hne, hne, ?_⟩
    obtain ⟨e1, e2⟩ := frac_of (a := a) hb
    rw [lz_div ha1 ha2 (by omega) (by omega), lz_div (by omega) (by omega) (by omega) (by omega)]
    rw [tdiv_exact (Int.ofNat_dvd_left.mpr (Nat.gcd_dvd_left _ _)), tdiv_exact (Int.natCast_dvd_natCast.mpr (Nat.gcd_dvd_right _ _))]
    unfold fr tb at h
    rw [e1, e2] at h
    rw [← Int.natCast_ediv]
    exact h
  · exact absurd hc (by omega)
theorem fr0 (σ : Sto) : fr σ 0 = tb σ (0 : Int64) (1 : Int64) := by
  have e1 : fT 0 = 0 := by unfold fT; exact Int.zero_ediv _
  have e2 : fB 0 = 1 := by decide +kernel
  unfold fr
  rw [e1, e2, lz_0, lz_1]
  rfl
theorem make0_ok {σ : Sto} {a : Int64} {Post : Sto → Prop} (h : Post (fr σ 0)) : X8_make_wp σ a (lz 0) Post := by
  unfold X8_make_wp
  rw [lg_cmp_eq, ← lz_0]
  refine ⟨fun hc => absurd rfl hc, fun _ => ?_⟩
  rw [fr0] at h
  exact h
theorem plus_ok {σ : Sto} {P a : Int} {b : Nat} {Post : Sto → Prop} (hb : b ∣ SC) (hP : P.natAbs + a.natAbs * (SC / b) < 2 ^ 63) (h : Post (fr σ (P + a * ((SC / b : Nat) : Int)))) : X8_plus_wp (fr σ P) (lz a) (lz b) Post := by
  have hb0 : 0 < b := Nat.pos_of_dvd_of_pos hb SC_pos
  have hbl : b ≤ SC := Nat.le_of_dvd SC_pos hb
  have hs := SC_lt
  have hd0 := fB_pos P
  have hdl := fB_le P
  have hdd := fB_dvd P
  have hm := fT_mul P
  have hGe := SC_div_fB P
  have hbt : (fr σ P).2 0 20 = lz (fB P) := tb_b _ _ _
  have htt : (fr σ P).2 0 19 = lz (fT P) := tb_t _ _ _
  unfold X8_plus_wp
  rw [hbt]
  generalize hd : fB P = d at *
  generalize ht : fT P = t at *
  generalize hG : fG P = G at *
  refine common_ok (a := (b : Int)) (b := d) (by omega) (by omega) (by omega) ?_
  rw [hbt, htt, Int.natAbs_natCast]
  have hg0 : 0 < Nat.gcd b d := Nat.gcd_pos_of_pos_left _ hb0
  obtain ⟨b', hb'⟩ := Nat.gcd_dvd_left b d
  obtain ⟨d', hd'⟩ := Nat.gcd_dvd_right b d
  have hgl : Nat.gcd b d ≤ b := Nat.le_of_dvd hb0 (Nat.gcd_dvd_left _ _)
  have hne : ¬ lz (Nat.gcd b d : Nat) = 0 := by
    rw [lz_0, lz_eq (by omega) (by omega) (by omega) (by omega)]
    omega
  refine ⟨hne, hne, hne, ?_⟩
  have eb : b / Nat.gcd b d = b' := Nat.div_eq_of_eq_mul_right hg0 hb'
  have ed : d / Nat.gcd b d = d' := Nat.div_eq_of_eq_mul_right hg0 hd'
  rw [lz_div (by omega) (by omega) (by omega) (by omega), lz_div (by omega) (by omega) (by omega) (by omega), tdiv_exact (Int.natCast_dvd_natCast.mpr (Nat.gcd_dvd_left _ _)), tdiv_exact (Int.natCast_dvd_natCast.mpr (Nat.gcd_dvd_right _ _)), ← Int.natCast_ediv, ← Int.natCast_ediv, eb, ed, lz_mul, lz_mul, lz_mul, lz_add, ← Int.natCast_mul]
  have hL : d' * b ∣ SC := by
    have h1 : Nat.lcm b d ∣ SC := Nat.lcm_dvd hb hdd
    have h2 : Nat.lcm b d = d' * b := by
      unfold Nat.lcm
      have : b * d = Nat.gcd b d * (d' * b) := by
        calc b * d = b * (Nat.gcd b d * d') := by rw [← hd']
          _ = Nat.gcd b d * (d' * b) := by
            rw [Nat.mul_comm b, Nat.mul_assoc]
      rw [this]
      exact Nat.mul_div_cancel_left _ hg0
    rw [← h2]
    exact h1
  obtain ⟨k, hk⟩ := hL
  have hb'0 : 0 < b' := Nat.pos_of_ne_zero (fun e => by rw [e, Nat.mul_zero] at hb'; omega)
  have hd'0 : 0 < d' := Nat.pos_of_ne_zero (fun e => by rw [e, Nat.mul_zero] at hd'; omega)
  have hk0 : 0 < k := Nat.pos_of_ne_zero (fun e => by rw [e, Nat.mul_zero] at hk; have := SC_pos; omega)
  have eSb : SC / b = d' * k := Nat.div_eq_of_eq_mul_right hb0 (by rw [hk, Nat.mul_comm d' b, Nat.mul_assoc])
  have eG : G = b' * k := by
    rw [← hGe]
    refine Nat.div_eq_of_eq_mul_right hd0 ?_
    rw [hk]
    calc d' * b * k = d' * (Nat.gcd b d * b') * k := by rw [← hb']
      _ = (Nat.gcd b d * d') * (b' * k) := by
        rw [← Nat.mul_assoc, Nat.mul_comm d' (Nat.gcd b d), Nat.mul_assoc]
      _ = d * (b' * k) := by rw [← hd']
  have eL : SC / (d' * b) = k := Nat.div_eq_of_eq_mul_right (Nat.mul_pos hd'0 hb0) hk
  have b1 : (t * (b' : Int)).natAbs ≤ P.natAbs := by
    rw [← hm, eG, Int.natAbs_mul, Int.natAbs_mul, Int.natAbs_natCast, Int.natAbs_natCast]
    exact Nat.mul_le_mul_left _ (Nat.le_mul_of_pos_right _ hk0)
  have b2 : (a * (d' : Int)).natAbs ≤ a.natAbs * (SC / b) := by
    rw [eSb, Int.natAbs_mul, Int.natAbs_natCast]
    exact Nat.mul_le_mul_left _ (Nat.le_mul_of_pos_right _ hk0)
  have hbd : (t * (b' : Int) + a * (d' : Int)).natAbs < 2 ^ 63 := by
    have := Int.natAbs_add_le (t * (b' : Int)) (a * (d' : Int))
    omega
  refine make_ok (by omega) (by omega) ⟨k, hk⟩ ?_
  rw [fr_fr, eL]
  have e9 : (t * (b' : Int) + a * (d' : Int)) * (k : Int) = P + a * ((SC / b : Nat) : Int) := by
    rw [eSb, Int.add_mul, ← hm, eG, Int.natCast_mul, Int.natCast_mul, Int.mul_assoc, Int.mul_assoc]
  rw [e9]
  exact h
