/-! the reference's measures: isInB, walks, steps -/
theorem sI_s (σ : Sto) (k j : Nat) (v : Int32) (y : Nat) : (sI σ k j v).1 k y = if y = j then v else σ.1 k y := by simp [sI]
theorem sI_e (σ : Sto) (k j : Nat) (v : Int32) : (sI σ k j v).1 k j = v := by simp [sI]
theorem sI_n (σ : Sto) (k : Nat) {j : Nat} (v : Int32) {y : Nat} (h : y ≠ j) : (sI σ k j v).1 k y = σ.1 k y := by simp [sI, h]
theorem sI_o (σ : Sto) {k k' : Nat} (j : Nat) (v : Int32) (h : k' ≠ k) : (sI σ k j v).1 k' = σ.1 k' := by simp [sI, h]
theorem sJ_s (σ : Sto) (k j : Nat) (v : Int64) (y : Nat) : (sJ σ k j v).2 k y = if y = j then v else σ.2 k y := by simp [sJ]
theorem sJ_e (σ : Sto) (k j : Nat) (v : Int64) : (sJ σ k j v).2 k j = v := by simp [sJ]
theorem sJ_n (σ : Sto) (k : Nat) {j : Nat} (v : Int64) {y : Nat} (h : y ≠ j) : (sJ σ k j v).2 k y = σ.2 k y := by simp [sJ, h]
theorem sJ_o (σ : Sto) {k k' : Nat} (j : Nat) (v : Int64) (h : k' ≠ k) : (sJ σ k j v).2 k' = σ.2 k' := by simp [sJ, h]
theorem nar_b2i (b : Bool) : vp_nar .boolean (b2i b) = b2i b := by cases b <;> decide
theorem narrow_b2i (b : Bool) : narrow .boolean (.int (b2i b)) = .int (b2i b) := by cases b <;> rfl
theorem b2iT : b2i true = 1 := rfl
theorem b2iF : b2i false = 0 := rfl
theorem MNet.same {I I' : Nat → Nat → Int32} {N S : Nat} {ar : Nat → Nat} {hid : Nat → Bool} (h : MNet I N S ar hid) (h0 : I' 0 0 = I 0 0) (h1 : I' 0 1 = I 0 1) (h2 : I' 1 = I 1) (h3 : I' 5 = I 5) : MNet I' N S ar hid := by
  unfold MNet at h ⊢
  rw [h0, h1, h2, h3]
  exact h
def inB (N S : Nat) (le : Nat → Nat → Bool) (x b : Nat) : Bool := if S < 2 then le x b else decide (x ≠ b) && (decide (N / 2 ≤ x) && anyB (N / 2) (fun y => le y b && le y x))
section MS
variable {σ : Sto} {N S : Nat} {ar : Nat → Nat} {hid : Nat → Bool} {grp : Nat → Nat} {v w s : Nat}
theorem isInB_ok {x b : Nat} {Post : Int32 → Sto → Prop} (h : MNet σ.1 N S ar hid) (hx : x < 12) (hb : b < 12) (hp : Post (b2i (inB N S (lead ar hid) x b)) σ) : X8_isInB_wp σ (nI x) (nI b) Post := by
  have hN := h.2.2.1
  have hS := h.2.2.2.2.1
  intro K hK
  rw [h.2.2.2.1]
  unfold inB at hp
  refine pk_le 2 S (fun hs => ?_) (fun hs => ?_)
  · rw [if_neg (by omega)] at hp
    refine pk_eq x b (fun e => ?_) (fun e => ?_)
    · rw [decide_eq_false (by omega), Bool.false_and] at hp
      exact hp
    · rw [decide_eq_true e, Bool.true_and] at hp
      rw [h.1, nI_half (by omega)]
      refine pk_le (N / 2) x (fun e2 => ?_) (fun e2 => ?_)
      · rw [decide_eq_true e2, Bool.true_and] at hp
        refine down (fun i => K σ (b2i (anyB i (fun y => lead ar hid y b && lead ar hid y x))) (nI i)) (N / 2) ?_ (fun i hi ih => ?_)
        · apply hK
          unfold X8_isInB_b37
          rw [h.1, nI_half (by omega)]
          exact pk_le (N / 2) (N / 2) (fun _ => ⟨narrow_b2i _, hp⟩) (fun hc => by omega)
        · apply hK
          unfold X8_isInB_b37
          rw [h.1, nI_half (by omega)]
          rw [anyB_s, ← nI_1] at ih
          refine pk_le (N / 2) i (fun hc => by omega) (fun hc => ?_)
          refine b2i_if _ (fun hb1 => ?_) (fun hb1 => ?_)
          · rw [hb1, Bool.true_or] at ih
            exact ih
          · rw [hb1, Bool.false_or] at ih
            refine leads_ok h (by omega) hb (b2i_fi _ (fun hb2 => ?_) (fun hb2 => ?_))
            · rw [hb2, Bool.true_and] at ih
              refine leads_ok h (by omega) hx (b2i_fi _ (fun hb3 => ?_) (fun hb3 => ?_))
              · rw [hb3] at ih
                exact ih
              · rw [hb3] at ih
                exact ih
            · rw [hb2, Bool.false_and] at ih
              exact ih
      · rw [decide_eq_false (by omega), Bool.false_and] at hp
        exact hp
  · rw [if_pos hs] at hp
    exact leads_ok h hx hb ⟨narrow_b2i _, hp⟩
def wk2 (N : Nat) (le : Nat → Nat → Bool) (a b : Nat) : Nat := cnt N (fun x => le a x && le x b)
def wk3 (N : Nat) (le : Nat → Nat → Bool) (a b : Nat) : Nat := smN N (fun x => if le a x then cnt N (fun y => le x y && le y b) else 0)
theorem walks_ok {a b : Nat} {Post : Int32 → Sto → Prop} (h : MNet σ.1 N S ar hid) (hpar : MPar σ.1 v w s) (ha : a < 12) (hb : b < 12) (hp : Post (nI (v * wk2 N (lead ar hid) a b + w * wk3 N (lead ar hid) a b)) σ) : X8_walks_wp σ (nI a) (nI b) Post := by
  have hN := h.2.2.1
  intro K8 K48 h8 h48
  generalize hle : lead ar hid = le at *
  have hl : ∀ {x y : Nat} {Post : Int32 → Sto → Prop}, x < 12 → y < 12 → Post (b2i (le x y)) σ → X8_leads_wp σ (nI x) (nI y) Post := fun hx hy hp => leads_ok h hx hy (by rw [hle]; exact hp)
  refine down (fun i => K8 σ (nI (cnt i (fun x => le a x && le x b))) (nI (smN i (fun x => if le a x then cnt N (fun y => le x y && le y b) else 0))) (nI i)) N ?_ (fun i hi ih => ?_)
  · apply h8
    unfold X8_walks_b8
    rw [h.1, hpar.1, hpar.2.2.1, pk_mul, pk_mul, nI_add]
    exact pk_le N N (fun _ => hp) (fun hc => by omega)
  · apply h8
    unfold X8_walks_b8
    rw [h.1]
    refine pk_le N i (fun hc => by omega) (fun hc => ?_)
    rw [smN_s, ← nI_1] at ih
    refine hl ha (by omega) (b2i_fi _ (fun hb1 => ?_) (fun hb1 => ?_))
    · rw [hb1, if_pos rfl] at ih
      have inner : ∀ t : Nat, K8 σ (nI t) (nI (smN i (fun x => if le a x then cnt N (fun y => le x y && le y b) else 0) + cnt N (fun y => le i y && le y b))) (nI i + 1) → K48 σ (nI t) (nI (smN i (fun x => if le a x then cnt N (fun y => le x y && le y b) else 0))) (nI i) 0 := by
        intro t ht
        generalize smN i (fun x => if le a x then cnt N (fun y => le x y && le y b) else 0) = q at ht ⊢
        refine down (fun j => K48 σ (nI t) (nI (q + cnt j (fun y => le i y && le y b))) (nI i) (nI j)) N ?_ (fun j hj ih2 => ?_)
        · apply h48
          unfold X8_walks_b48
          rw [h.1]
          exact pk_le N N (fun _ => ht) (fun hc => by omega)
        · apply h48
          unfold X8_walks_b48
          rw [h.1]
          refine pk_le N j (fun hc => by omega) (fun hc => ?_)
          rw [← nI_1] at ih2
          refine hl (by omega) (by omega) (b2i_fi _ (fun hb2 => ?_) (fun hb2 => ?_))
          · refine hl (by omega) hb (b2i_fi _ (fun hb3 => ?_) (fun hb3 => ?_))
            · rw [cnt_t (by rw [hb2, hb3]; rfl), ← Nat.add_assoc, ← nI_1] at ih2
              exact ih2
            · rw [cnt_f (by rw [hb2, hb3]; rfl)] at ih2
              rw [nI_p0]
              exact ih2
          · rw [cnt_f (by rw [hb2]; rfl)] at ih2
            rw [nI_p0]
            exact ih2
      refine hl (by omega) hb (b2i_fi _ (fun hb2 => ?_) (fun hb2 => ?_))
      · rw [cnt_t (by rw [hb1, hb2]; rfl)] at ih
        rw [nI_1]
        exact inner _ ih
      · rw [cnt_f (by rw [hb1, hb2]; rfl)] at ih
        rw [nI_p0]
        exact inner _ ih
    · rw [hb1, if_neg (by decide), cnt_f (by rw [hb1]; rfl), Nat.add_zero] at ih
      exact ih
/-- reached from a by at most d arcs -/
def rch (N : Nat) (le : Nat → Nat → Bool) (a : Nat) : Nat → Nat → Bool
  | 0, x => decide (x = a)
  | d + 1, x => rch N le a d x || anyB N (fun y => rch N le a d y && le y x)
/-- the first d from a place on where R holds, 0 where there is none in time -/
def stpA (R : Nat → Bool) : Nat → Nat → Nat
  | 0, _ => 0
  | f + 1, d => if R d then d else stpA R f (d + 1)
def stp (N : Nat) (le : Nat → Nat → Bool) (a b : Nat) : Nat := stpA (fun d => rch N le a d b) (N - 1) 1
theorem steps_ok {a b : Nat} {Post : Int32 → Sto → Prop} (h : MNet σ.1 N S ar hid) (ha : a < N) (hb : b < N) (hp : ∀ σ' : Sto, σ'.2 = σ.2 → (∀ k, k ≠ 11 → k ≠ 12 → σ'.1 k = σ.1 k) → Post (nI (stp N (lead ar hid) a b)) σ') : X8_steps_wp σ (nI a) (nI b) Post := by
  have hN := h.2.2.1
  intro K2 K34 K45 K77 K89 h2 h34 h45 h77 h89
  generalize hle : lead ar hid = le at *
  have hM : ∀ {τ : Sto}, (∀ k, k ≠ 11 → k ≠ 12 → τ.1 k = σ.1 k) → MNet τ.1 N S ar hid := fun e => h.same (by rw [e 0 (by decide) (by decide)]) (by rw [e 0 (by decide) (by decide)]) (e 1 (by decide) (by decide)) (e 5 (by decide) (by decide))
  have f11 : ∀ {τ : Sto} (j : Nat) (x : Int32), (∀ k, k ≠ 11 → k ≠ 12 → τ.1 k = σ.1 k) → (∀ k, k ≠ 11 → k ≠ 12 → (sI τ 11 j x).1 k = σ.1 k) := fun j x e k h1 h2 => by rw [sI_o _ _ _ h1]; exact e k h1 h2
  have f12 : ∀ {τ : Sto} (j : Nat) (x : Int32), (∀ k, k ≠ 11 → k ≠ 12 → τ.1 k = σ.1 k) → (∀ k, k ≠ 11 → k ≠ 12 → (sI τ 12 j x).1 k = σ.1 k) := fun j x e k h1 h2 => by rw [sI_o _ _ _ h2]; exact e k h1 h2
  -- the rows x of one round
  have rowsR : ∀ (d : Nat) (m : Nat → Bool), (∀ τ : Sto, τ.2 = σ.2 → (∀ k, k ≠ 11 → k ≠ 12 → τ.1 k = σ.1 k) → (∀ y, y < N → τ.1 11 y = b2i (m y || anyB N (fun x => m x && le x y))) → K77 τ (nI d) (nI N)) →
      ∀ τ : Sto, τ.2 = σ.2 → (∀ k, k ≠ 11 → k ≠ 12 → τ.1 k = σ.1 k) → (∀ y, y < N → τ.1 11 y = b2i (m y)) → (∀ y, y < N → τ.1 12 y = b2i (m y)) → K77 τ (nI d) (nI 0) := by
    intro d m hend
    have key : ∀ j x, x + j = N → ∀ τ : Sto, τ.2 = σ.2 → (∀ k, k ≠ 11 → k ≠ 12 → τ.1 k = σ.1 k) → (∀ y, y < N → τ.1 11 y = b2i (m y || anyB x (fun x => m x && le x y))) → (∀ y, y < N → τ.1 12 y = b2i (m y)) → K77 τ (nI d) (nI x) := by
      intro j
      induction j with
      | zero =>
        intro x hx τ e1 e2 e3 e4
        have hx : x = N := hx
        subst hx
        exact hend τ e1 e2 e3
      | succ j ih =>
        intro x hx τ e1 e2 e3 e4
        apply h77
        unfold X8_steps_b77
        rw [(hM e2).1]
        refine pk_le N x (fun hc => by omega) (fun hc => ?_)
        by_cases hmx : m x = true
        · -- the row is walked
          have inner : ∀ j2 y, y + j2 = N → ∀ τ : Sto, τ.2 = σ.2 → (∀ k, k ≠ 11 → k ≠ 12 → τ.1 k = σ.1 k) → (∀ z, z < N → τ.1 11 z = b2i ((m z || anyB x (fun x => m x && le x z)) || (decide (z < y) && le x z))) → (∀ z, z < N → τ.1 12 z = b2i (m z)) → K89 τ (nI d) (nI x) (nI y) := by
            intro j2
            induction j2 with
            | zero =>
              intro y hy τ e1 e2 e3 e4
              have hy : y = N := hy
              subst hy
              apply h89
              unfold X8_steps_b89
              rw [(hM e2).1]
              refine pk_le y y (fun _ => ?_) (fun hc => by omega)
              rw [nI_1]
              refine ih (x + 1) (by omega) τ e1 e2 (fun z hz => ?_) e4
              rw [e3 z hz, decide_eq_true hz, Bool.true_and, anyB_s, hmx, Bool.true_and, Bool.or_assoc]
            | succ j2 ih2 =>
              intro y hy τ e1 e2 e3 e4
              apply h89
              unfold X8_steps_b89
              rw [(hM e2).1]
              refine pk_le N y (fun hc => by omega) (fun hc => ?_)
              rw [nI_clamp (by omega), nI_clamp (by omega), e4 x (by omega), hmx]
              refine ⟨vp_in_nI (by omega) (by decide), fun hc => absurd hc (by decide), fun _ => ⟨vp_in_nI (by omega) (by decide), ?_⟩⟩
              have e3y := e3 y (by omega)
              rw [decide_eq_false (Nat.lt_irrefl y), Bool.false_and, Bool.or_false] at e3y
              have next : ∀ (u : Bool), u = ((m y || anyB x (fun x => m x && le x y)) || le x y) → K89 (sI τ 11 y (b2i u)) (nI d) (nI x) (nI (y + 1)) := by
                intro u hu
                refine ih2 (y + 1) (by omega) _ e1 (f11 _ _ e2) (fun z hz => ?_) (fun z hz => by rw [sI_o _ _ _ (by decide)]; exact e4 z hz)
                by_cases hzy : z = y
                · subst hzy
                  rw [sI_e, decide_eq_true (Nat.lt_succ_self z), Bool.true_and, hu]
                · rw [sI_n _ _ _ hzy, e3 z hz]
                  congr 2
                  congr 1
                  by_cases hlt : z < y
                  · rw [decide_eq_true hlt, decide_eq_true (show z < y + 1 by omega)]
                  · rw [decide_eq_false hlt, decide_eq_false (show ¬ z < y + 1 by omega)]
              rw [e3y, nI_1]
              refine b2i_if _ (fun hb1 => ?_) (fun hb1 => ?_)
              · refine ⟨vp_in_nI (by omega) (by decide), ?_⟩
                exact next true (by rw [hb1]; rfl)
              · refine leads_ok (hM e2) (by omega) (by omega) ?_
                rw [hle]
                refine b2i_fi _ (fun hb2 => ?_) (fun hb2 => ?_)
                · exact ⟨vp_in_nI (by omega) (by decide), next true (by rw [hb1, hb2]; rfl)⟩
                · exact ⟨vp_in_nI (by omega) (by decide), next false (by rw [hb1, hb2]; rfl)⟩
          refine inner N 0 (by omega) τ e1 e2 (fun z hz => ?_) e4
          rw [e3 z hz, decide_eq_false (by omega), Bool.false_and, Bool.or_false]
        · have hmx : m x = false := by simpa using hmx
          apply h89
          unfold X8_steps_b89
          rw [(hM e2).1]
          refine ⟨fun hc => ?_, fun hc => ⟨vp_in_nI (by omega) (by decide), fun _ => ?_, fun hc => absurd ?_ hc⟩⟩
          · exact absurd hc (nI_ge (show 0 < N by omega) (by omega))
          · rw [nI_1]
            refine ih (x + 1) (by omega) τ e1 e2 (fun z hz => ?_) e4
            rw [e3 z hz, anyB_s, hmx, Bool.false_and, Bool.or_false]
          · rw [nI_clamp (by omega), e4 x (by omega), hmx]
            rfl
    intro τ e1 e2 e3 e4
    refine key N 0 (by omega) τ e1 e2 (fun y hy => ?_) e4
    rw [e3 y hy]
    show b2i (m y) = b2i (m y || false)
    rw [Bool.or_false]
  -- the copy
  have copy : ∀ (d : Nat) (m : Nat → Bool), (∀ τ : Sto, τ.2 = σ.2 → (∀ k, k ≠ 11 → k ≠ 12 → τ.1 k = σ.1 k) → (∀ y, y < N → τ.1 11 y = b2i (m y)) → (∀ y, y < N → τ.1 12 y = b2i (m y)) → K77 τ (nI d) (nI 0)) →
      ∀ j x, x + j = N → ∀ τ : Sto, τ.2 = σ.2 → (∀ k, k ≠ 11 → k ≠ 12 → τ.1 k = σ.1 k) → (∀ y, y < N → τ.1 11 y = b2i (m y)) → (∀ y, y < x → τ.1 12 y = b2i (m y)) → K45 τ (nI d) (nI x) := by
    intro d m hend j
    induction j with
    | zero =>
      intro x hx τ e1 e2 e3 e4
      have hx : x = N := hx
      subst hx
      apply h45
      unfold X8_steps_b45
      rw [(hM e2).1]
      exact pk_le x x (fun _ => hend τ e1 e2 e3 e4) (fun hc => by omega)
    | succ j ih =>
      intro x hx τ e1 e2 e3 e4
      apply h45
      unfold X8_steps_b45
      rw [(hM e2).1]
      refine pk_le N x (fun hc => by omega) (fun hc => ⟨vp_in_nI (by omega) (by decide), vp_in_nI (by omega) (by decide), ?_⟩)
      rw [nI_clamp (by omega), e3 x (by omega), nar_b2i, nI_1]
      refine ih (x + 1) (by omega) _ e1 (f12 _ _ e2) (fun y hy => by rw [sI_o _ _ _ (by decide)]; exact e3 y hy) (fun y hy => ?_)
      by_cases hyx : y = x
      · subst hyx
        rw [sI_e]
      · rw [sI_n _ _ _ hyx]
        exact e4 y (by omega)
  -- the rounds
  have rounds : ∀ f d, d + f = N → 1 ≤ d → stpA (fun d => rch N le a d b) f d = stp N le a b → ∀ τ : Sto, τ.2 = σ.2 → (∀ k, k ≠ 11 → k ≠ 12 → τ.1 k = σ.1 k) → (∀ y, y < N → τ.1 11 y = b2i (rch N le a (d - 1) y)) → K34 τ (nI d) := by
    intro f
    induction f with
    | zero =>
      intro d hd h1 hst τ e1 e2 e3
      have hd : d = N := hd
      subst hd
      apply h34
      unfold X8_steps_b34
      rw [(hM e2).1]
      refine pk_le d d (fun _ => ?_) (fun hc => by omega)
      rw [← nI_0, show (0 : Nat) = stp d le a b from hst]
      exact hp τ e1 e2
    | succ f ih =>
      intro d hd h1 hst τ e1 e2 e3
      apply h34
      unfold X8_steps_b34
      rw [(hM e2).1]
      refine pk_le N d (fun hc => by omega) (fun hc => ?_)
      refine copy d (rch N le a (d - 1)) (rowsR d (rch N le a (d - 1)) (fun τ e1 e2 e3 => ?_)) N 0 (by omega) τ e1 e2 e3 (fun y hy => by omega)
      have e3 : ∀ y, y < N → τ.1 11 y = b2i (rch N le a d y) := fun y hy => by
        rw [e3 y hy]
        obtain ⟨d', rfl⟩ : ∃ d', d = d' + 1 := ⟨d - 1, by omega⟩
        rfl
      apply h77
      unfold X8_steps_b77
      rw [(hM e2).1]
      refine pk_le N N (fun _ => ⟨vp_in_nI (by omega) (by decide), ?_⟩) (fun hc => by omega)
      rw [nI_clamp (by omega), e3 b hb]
      unfold stpA at hst
      refine b2i_fi _ (fun hb1 => ?_) (fun hb1 => ?_)
      · simp only [hb1, if_true] at hst
        rw [show nI d = nI (stp N le a b) by rw [← hst]]
        exact hp τ e1 e2
      · simp only [hb1] at hst
        rw [nI_1]
        exact ih (d + 1) (by omega) (by omega) (by simpa using hst) τ e1 e2 e3
  -- the start
  have start : ∀ j x, x + j = N → ∀ τ : Sto, τ.2 = σ.2 → (∀ k, k ≠ 11 → k ≠ 12 → τ.1 k = σ.1 k) → (∀ y, y < x → τ.1 11 y = b2i (decide (y = a))) → K2 τ (nI x) := by
    intro j
    induction j with
    | zero =>
      intro x hx τ e1 e2 e3
      have hx : x = N := hx
      subst hx
      apply h2
      unfold X8_steps_b2
      rw [(hM e2).1]
      refine pk_le x x (fun _ => ?_) (fun hc => by omega)
      exact rounds (x - 1) 1 (by omega) (Nat.le_refl 1) rfl τ e1 e2 e3
    | succ j ih =>
      intro x hx τ e1 e2 e3
      apply h2
      unfold X8_steps_b2
      rw [(hM e2).1]
      refine pk_le N x (fun hc => by omega) (fun hc => ?_)
      have next : ∀ u : Bool, u = decide (x = a) → K2 (sI τ 11 x (b2i u)) (nI (x + 1)) := by
        intro u hu
        refine ih (x + 1) (by omega) _ e1 (f11 _ _ e2) (fun y hy => ?_)
        by_cases hyx : y = x
        · subst hyx
          rw [sI_e, hu]
        · rw [sI_n _ _ _ hyx]
          exact e3 y (by omega)
      rw [nI_1, nI_clamp (by omega)]
      refine ⟨fun hne => ⟨vp_in_nI (by omega) (by decide), ?_⟩, fun he => ⟨vp_in_nI (by omega) (by decide), ?_⟩⟩
      · exact next false (by rw [decide_eq_false]; exact fun q => hne (by rw [q]))
      · exact next true (by rw [decide_eq_true]; exact (nI_eq (by omega) (by omega)).mp he)
  exact start N 0 (by omega) σ rfl (fun _ _ _ => rfl) (fun y hy => by omega)
end MS
