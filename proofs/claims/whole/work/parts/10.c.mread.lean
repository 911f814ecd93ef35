/-! the reference's reads, over what its store shows -/
def lead (ar : Nat → Nat) (hid : Nat → Bool) (x y : Nat) : Bool := decide (0 < ar (12 * x + y)) && !(hid (ar (12 * x + y) - 1))
def isP (N S a b : Nat) : Bool := if S = 0 then decide (a < b) else if S = 1 then decide (a ≠ b) else decide (a < N / 2) && decide (N / 2 ≤ b)
def MNet (I : Nat → Nat → Int32) (N S : Nat) (ar : Nat → Nat) (hid : Nat → Bool) : Prop := I 0 0 = nI N ∧ 2 ≤ N ∧ N ≤ 12 ∧ I 0 1 = nI S ∧ S ≤ 2 ∧ (∀ p, p < 144 → I 1 p = nI (ar p) ∧ ar p ≤ 132) ∧ (∀ k, k < 132 → I 5 k = b2i (hid k))
def MGrp (I : Nat → Nat → Int32) (grp : Nat → Nat) : Prop := ∀ x, x < 12 → I 6 x = nI (grp x) ∧ grp x < 4
def MPar (I : Nat → Nat → Int32) (v w s : Nat) : Prop := I 0 10 = nI v ∧ v ≤ 9 ∧ I 0 11 = nI w ∧ w ≤ 9 ∧ I 0 12 = nI s ∧ (s = 1 ∨ s = 2)
theorem ix (x y : Nat) : ((12 : Int32) * nI x) + nI y = nI (12 * x + y) := by rw [show (12 : Int32) = nI 12 from rfl, pk_mul, nI_add]
theorem b2i_0 (b : Bool) : (b2i b = 0) ↔ b = false := by cases b <;> decide
theorem b2i_n (b : Bool) : (¬ b2i b = 0) ↔ b = true := by cases b <;> decide
theorem b2i_if (b : Bool) {A B : Prop} (h : b = true → A) (h2 : b = false → B) : (¬ b2i b = 0 → A) ∧ (b2i b = 0 → B) := ⟨fun c => h ((b2i_n b).mp c), fun c => h2 ((b2i_0 b).mp c)⟩
theorem b2i_fi (b : Bool) {A B : Prop} (h : b = true → A) (h2 : b = false → B) : (b2i b = 0 → B) ∧ (¬ b2i b = 0 → A) := ⟨fun c => h2 ((b2i_0 b).mp c), fun c => h ((b2i_n b).mp c)⟩
theorem le0 {a : Nat} (h : a < 2 ^ 31) : (nI a ≤ 0) ↔ a = 0 := by
  rw [← nI_0, nI_leI h (by omega)]
  omega
theorem nI_half {N : Nat} (h : N < 2 ^ 31) : nI N / (2 : Int32) = nI (N / 2) := by
  rw [show (2 : Int32) = nI 2 from rfl, pk_div h (by omega) (by omega)]
section MR
variable {σ : Sto} {N S : Nat} {ar : Nat → Nat} {hid : Nat → Bool} {grp : Nat → Nat} {v w s : Nat}
theorem isNode_ok {a : Nat} {Post : Int32 → Sto → Prop} (h : MNet σ.1 N S ar hid) (ha : a < 2 ^ 31) (hp : Post (b2i (decide (a < N))) σ) : X8_isNode_wp σ (nI a) Post := by
  obtain ⟨e, h1, h2, -⟩ := h
  unfold X8_isNode_wp
  rw [e]
  refine ⟨fun hc => absurd hc (nI_pos ha), fun _ => ?_⟩
  refine pk_le N a (fun hc => ?_) (fun hc => ?_)
  · rw [decide_eq_false (by omega)] at hp
    exact hp
  · rw [decide_eq_true hc] at hp
    exact hp
theorem isPair_ok {a b : Nat} {Post : Int32 → Sto → Prop} (h : MNet σ.1 N S ar hid) (ha : a < 2 ^ 31) (hb : b < 2 ^ 31) (hp : Post (b2i (isP N S a b)) σ) : X8_isPair_wp σ (nI a) (nI b) Post := by
  obtain ⟨e, h1, h2, e3, h4, -⟩ := h
  unfold X8_isPair_wp
  rw [e, e3, nI_half (by omega)]
  unfold isP at hp
  refine ⟨fun hc => ⟨fun hc1 => ?_, fun hc1 => ?_⟩, fun hc => ?_⟩
  · have s0 : ¬ S = 0 := fun q => hc (by rw [q]; exact nI_0)
    have s1 : ¬ S = 1 := fun q => hc1 (by rw [q]; rfl)
    rw [if_neg s0, if_neg s1] at hp
    refine pk_le (N / 2) a (fun h9 => ?_) (fun h9 => ?_)
    · rw [decide_eq_false (by omega)] at hp
      exact hp
    · rw [decide_eq_true h9, Bool.true_and] at hp
      refine pk_lt b (N / 2) (fun h8 => ?_) (fun h8 => ?_)
      · rw [decide_eq_false (by omega)] at hp
        exact hp
      · rw [decide_eq_true h8] at hp
        exact hp
  · have s1 : S = 1 := (nI_eq (by omega) (by omega)).mp hc1
    rw [if_neg (by omega), if_pos s1] at hp
    refine pk_eq a b (fun h9 => ?_) (fun h9 => ?_)
    · rw [decide_eq_false (by omega)] at hp
      exact hp
    · rw [decide_eq_true h9] at hp
      exact hp
  · have s1 : S = 0 := (nI_eq (by omega) (by omega)).mp (hc.trans nI_0.symm)
    rw [if_pos s1] at hp
    refine pk_le b a (fun h9 => ?_) (fun h9 => ?_)
    · rw [decide_eq_false (by omega)] at hp
      exact hp
    · rw [decide_eq_true h9] at hp
      exact hp
theorem leads_ok {x y : Nat} {Post : Int32 → Sto → Prop} (h : MNet σ.1 N S ar hid) (hx : x < 12) (hy : y < 12) (hp : Post (b2i (lead ar hid x y)) σ) : X8_leads_wp σ (nI x) (nI y) Post := by
  obtain ⟨-, -, -, -, -, hA, hH⟩ := h
  have hp9 : 12 * x + y < 144 := by omega
  obtain ⟨e1, e2⟩ := hA _ hp9
  unfold X8_leads_wp
  rw [ix, nI_clamp (by omega), e1]
  refine ⟨vp_in_nI hp9 (by decide), ?_⟩
  unfold lead at hp
  rw [le0 (by omega)]
  refine ⟨fun hc => ?_, fun hc => ?_⟩
  · rw [hc] at hp
    exact hp
  · obtain ⟨k, hk⟩ : ∃ k, ar (12 * x + y) = k + 1 := ⟨ar (12 * x + y) - 1, by omega⟩
    rw [hk] at hp ⊢
    rw [nI_pred, nI_clamp (by omega), hH k (by omega)]
    refine ⟨vp_in_nI (by omega) (by decide), ?_⟩
    rw [decide_eq_true (Nat.succ_pos k), Bool.true_and, Nat.add_sub_cancel] at hp
    refine b2i_if _ (fun hb => ?_) (fun hb => ?_)
    · rw [hb] at hp
      exact hp
    · rw [hb] at hp
      exact hp
theorem isFound_ok {x y : Nat} {Post : Int32 → Sto → Prop} (h : MNet σ.1 N S ar hid) (hx : x < 12) (hy : y < 12) (hp : Post (b2i (decide (0 < ar (12 * x + y)) && hid (ar (12 * x + y) - 1))) σ) : X8_isFound_wp σ (nI x) (nI y) Post := by
  obtain ⟨-, -, -, -, -, hA, hH⟩ := h
  have hp9 : 12 * x + y < 144 := by omega
  obtain ⟨e1, e2⟩ := hA _ hp9
  unfold X8_isFound_wp
  rw [ix, nI_clamp (by omega), e1]
  refine ⟨vp_in_nI hp9 (by decide), ?_⟩
  rw [le0 (by omega)]
  refine ⟨fun hc => ?_, fun hc => ?_⟩
  · rw [hc] at hp
    exact hp
  · obtain ⟨k, hk⟩ : ∃ k, ar (12 * x + y) = k + 1 := ⟨ar (12 * x + y) - 1, by omega⟩
    rw [hk] at hp ⊢
    rw [nI_pred, nI_clamp (by omega), hH k (by omega)]
    refine ⟨vp_in_nI (by omega) (by decide), ?_⟩
    rw [decide_eq_true (Nat.succ_pos k), Bool.true_and, Nat.add_sub_cancel] at hp
    refine b2i_fi _ (fun hb => ?_) (fun hb => ?_)
    · rw [hb] at hp
      exact hp
    · rw [hb] at hp
      exact hp
theorem isCandidate_ok {x y : Nat} {Post : Int32 → Sto → Prop} (h : MNet σ.1 N S ar hid) (hx : x < 12) (hy : y < 12) (hp : Post (b2i (!lead ar hid x y)) σ) : X8_isCandidate_wp σ (nI x) (nI y) Post := by
  unfold X8_isCandidate_wp
  refine leads_ok h hx hy (b2i_if _ (fun hb => ?_) (fun hb => ?_))
  · rw [hb] at hp
    exact hp
  · rw [hb] at hp
    exact hp
theorem outs_ok {x : Nat} {Post : Int32 → Sto → Prop} (h : MNet σ.1 N S ar hid) (hx : x < 12) (hp : Post (nI (cnt N (lead ar hid x))) σ) : X8_outs_wp σ (nI x) Post := by
  have hN := h.2.2.1
  intro K hK
  refine down (fun i => K σ (nI (cnt i (lead ar hid x))) (nI i)) N ?_ (fun i hi ih => ?_)
  · apply hK
    unfold X8_outs_b4
    rw [h.1]
    exact pk_le N N (fun _ => hp) (fun hc => by omega)
  · apply hK
    unfold X8_outs_b4
    rw [h.1]
    refine pk_le N i (fun hc => by omega) (fun hc => ?_)
    refine leads_ok h hx (by omega) (b2i_fi _ (fun hb => ?_) (fun hb => ?_))
    · rw [cnt_t (f := lead ar hid x) hb, ← nI_1, ← nI_1] at ih
      exact ih
    · rw [cnt_f (f := lead ar hid x) hb, ← nI_1] at ih
      rw [nI_p0]
      exact ih
theorem ins_ok {x : Nat} {Post : Int32 → Sto → Prop} (h : MNet σ.1 N S ar hid) (hx : x < 12) (hp : Post (nI (cnt N (fun y => lead ar hid y x))) σ) : X8_ins_wp σ (nI x) Post := by
  have hN := h.2.2.1
  intro K hK
  refine down (fun i => K σ (nI (cnt i (fun y => lead ar hid y x))) (nI i)) N ?_ (fun i hi ih => ?_)
  · apply hK
    unfold X8_ins_b4
    rw [h.1]
    exact pk_le N N (fun _ => hp) (fun hc => by omega)
  · apply hK
    unfold X8_ins_b4
    rw [h.1]
    refine pk_le N i (fun hc => by omega) (fun hc => ?_)
    refine leads_ok h (by omega) hx (b2i_fi _ (fun hb => ?_) (fun hb => ?_))
    · rw [cnt_t (f := fun y => lead ar hid y x) hb, ← nI_1, ← nI_1] at ih
      exact ih
    · rw [cnt_f (f := fun y => lead ar hid y x) hb, ← nI_1] at ih
      rw [nI_p0]
      exact ih
end MR
