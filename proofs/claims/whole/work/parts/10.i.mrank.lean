/-! the ranking: what both sides do, and the reference's rank -/
def isC (N S : Nat) (le : Nat → Nat → Bool) (p : Nat) : Bool := (decide (p / 12 < N) && decide (p % 12 < N)) && (isP N S (p / 12) (p % 12) && !le (p / 12) (p % 12))
theorem cnt_up (n : Nat) (f : Nat → Bool) : cnt n f ≤ cnt (n + 1) f := Nat.le_add_right _ _
/-- the i-th place below n where f holds -/
def nth (f : Nat → Bool) : Nat → Nat → Nat
  | 0, _ => 0
  | n + 1, i => if f n && decide (cnt n f = i) then n else nth f n i
theorem nth_cnt {f : Nat → Bool} {p : Nat} (hf : f p = true) : ∀ n, p < n → nth f n (cnt p f) = p
  | 0, h => by omega
  | n + 1, h => by
    unfold nth
    by_cases e : p = n
    · subst e
      rw [hf, decide_eq_true rfl]
      rfl
    · have hlt : p < n := by omega
      have : cnt p f < cnt n f := by
        have key : ∀ m, p < m → m ≤ n → cnt p f < cnt m f := by
          intro m
          induction m with
          | zero => intro h _; omega
          | succ m ih =>
            intro h1 h2
            by_cases e2 : p = m
            · subst e2
              rw [cnt_t hf]
              omega
            · have := ih (by omega) (by omega)
              have := cnt_up m f
              omega
        exact key n hlt (Nat.le_refl n)
      rw [decide_eq_false (by omega), Bool.and_false, if_neg (by decide)]
      exact nth_cnt hf n hlt
theorem nth_spec {f : Nat → Bool} : ∀ n i, i < cnt n f → f (nth f n i) = true ∧ nth f n i < n ∧ cnt (nth f n i) f = i
  | 0, i, h => by simp [cnt] at h
  | n + 1, i, h => by
    unfold nth
    by_cases e : (f n && decide (cnt n f = i)) = true
    · rw [if_pos e]
      rw [Bool.and_eq_true, decide_eq_true_eq] at e
      exact ⟨e.1, by omega, e.2⟩
    · rw [if_neg e]
      have hlt : i < cnt n f := by
        by_cases hf : f n = true
        · rw [cnt_t hf] at h
          have : ¬ cnt n f = i := fun q => e (by rw [hf, decide_eq_true q]; rfl)
          omega
        · rw [cnt_f (by simpa using hf)] at h
          exact h
      obtain ⟨a, b, c⟩ := nth_spec n i hlt
      exact ⟨a, by omega, c⟩
/-- where x goes among the first n of o: behind the last that is not less -/
def pos (key : Nat → Int) (o : Nat → Nat) (x : Nat) : Nat → Nat
  | 0 => 0
  | n + 1 => if key (o n) < key x then pos key o x n else n + 1
def insA (key : Nat → Int) (o : Nat → Nat) (n x : Nat) : Nat → Nat := fun j => if j < pos key o x n then o j else if j = pos key o x n then x else o (j - 1)
def rk (key : Nat → Int) : Nat → Nat → Nat
  | 0 => fun _ => 0
  | n + 1 => insA key (rk key n) n n
theorem pos_le (key : Nat → Int) (o : Nat → Nat) (x : Nat) : ∀ n, pos key o x n ≤ n
  | 0 => Nat.le_refl 0
  | n + 1 => by
    unfold pos
    split
    · exact Nat.le_succ_of_le (pos_le key o x n)
    · exact Nat.le_refl _
theorem rk_lt (key : Nat → Int) : ∀ n j, j < n → rk key n j < n
  | 0, j, h => by omega
  | n + 1, j, h => by
    have hp := pos_le key (rk key n) n n
    unfold rk insA
    show (if j < pos key (rk key n) n n then rk key n j else if j = pos key (rk key n) n n then n else rk key n (j - 1)) < n + 1
    split
    · have := rk_lt key n j (by omega)
      omega
    · split
      · omega
      · have := rk_lt key n (j - 1) (by omega)
        omega
def mvp (P : Nat → Nat → Nat → Nat) (wt : Nat → Int) (p : Nat) : Int := mixv P wt (p / 12) (p % 12)
/-- what rank leaves as it was -/
def Kr (σ σ' : Sto) : Prop := (∀ k, k ≠ 10 → k ≠ 11 → k ≠ 12 → k ≠ 13 → σ'.1 k = σ.1 k) ∧ (∀ k, k ≠ 0 → k ≠ 8 → k ≠ 9 → k ≠ 14 → k ≠ 15 → σ'.2 k = σ.2 k) ∧ (∀ j, j ≠ 19 → j ≠ 20 → σ'.2 0 j = σ.2 0 j)
theorem Kr.rf (σ : Sto) : Kr σ σ := ⟨fun _ _ _ _ _ => rfl, fun _ _ _ _ _ _ => rfl, fun _ _ _ => rfl⟩
theorem Kr.tr {σ τ υ : Sto} (h : Kr σ τ) (h2 : Kr τ υ) : Kr σ υ := ⟨fun k a b c d => (h2.1 k a b c d).trans (h.1 k a b c d), fun k a b c d e => (h2.2.1 k a b c d e).trans (h.2.1 k a b c d e), fun j a b => (h2.2.2 j a b).trans (h.2.2 j a b)⟩
theorem Kp.kr {σ τ : Sto} (h : Kp σ τ) : Kr σ τ := ⟨fun k a b c _ => h.1 k a b c, fun k a b c _ _ => h.2.1 k a b c, h.2.2⟩
theorem MB.kr {σ τ : Sto} {N S : Nat} {ar : Nat → Nat} {hid : Nat → Bool} {grp : Nat → Nat} {v w s : Nat} (h : MB σ.1 N S ar hid grp v w s) (k : Kr σ τ) : MB τ.1 N S ar hid grp v w s := h.kp (k.1 0 (by decide) (by decide) (by decide) (by decide)) (k.1 1 (by decide) (by decide) (by decide) (by decide)) (k.1 5 (by decide) (by decide) (by decide) (by decide)) (k.1 6 (by decide) (by decide) (by decide) (by decide))
theorem MWt.kr {σ τ : Sto} {wt : Nat → Int} (h : MWt σ.1 wt) (k : Kr σ τ) : MWt τ.1 wt := by
  unfold MWt at h ⊢
  rw [k.1 7 (by decide) (by decide) (by decide) (by decide)]
  exact h
theorem MCa.cong {σ τ : Sto} {N S : Nat} {P : Nat → Nat → Nat → Nat} (h : MCa σ N S P) (e1 : τ.1 10 = σ.1 10) (e8 : τ.2 8 = σ.2 8) (e9 : τ.2 9 = σ.2 9) : MCa τ N S P := by
  unfold MCa MCk at h ⊢
  rw [e1, e8, e9]
  exact h
theorem cnt_mono_n (f : Nat → Bool) : ∀ {m n : Nat}, m ≤ n → cnt m f ≤ cnt n f := by
  intro m n h
  induction n with
  | zero =>
    have : m = 0 := by omega
    subst this
    exact Nat.le_refl _
  | succ n ih =>
    by_cases e : m = n + 1
    · subst e
      exact Nat.le_refl _
    · have := ih (by omega)
      have := cnt_up n f
      omega
theorem cnt_same {f : Nat → Bool} {m n : Nat} (h : m ≤ n) (hf : ∀ i, m ≤ i → i < n → f i = false) : cnt n f = cnt m f := by
  induction n with
  | zero =>
    have : m = 0 := by omega
    subst this
    rfl
  | succ n ih =>
    by_cases e : m = n + 1
    · subst e
      rfl
    · rw [cnt_f (hf n (by omega) (by omega))]
      exact ih (by omega) (fun i h1 h2 => hf i h1 (by omega))
/-- at most 132 pairs: no pair of a node with itself -/
theorem cntC_le (N S : Nat) (le : Nat → Nat → Bool) : ∀ a, a ≤ 12 → cnt (12 * a) (isC N S le) ≤ 11 * a
  | 0, _ => Nat.le_refl 0
  | a + 1, h => by
    have ih := cntC_le N S le a (by omega)
    have row : ∀ j, j ≤ 12 → cnt (12 * a + j) (isC N S le) + (if a < j then 1 else 0) ≤ cnt (12 * a) (isC N S le) + j := by
      intro j
      induction j with
      | zero => intro _; simp
      | succ j ihj =>
        intro hj
        have := ihj (by omega)
        by_cases e : j = a
        · subst e
          have hz : isC N S le (12 * j + j) = false := by
            have e1 : (12 * j + j) / 12 = j := by omega
            have e2 : (12 * j + j) % 12 = j := by omega
            unfold isC isP
            rw [e1, e2]
            by_cases s0 : S = 0
            · simp [s0]
            · by_cases s1 : S = 1
              · simp [s0, s1]
              · rw [if_neg s0, if_neg s1]
                by_cases q : j < N / 2
                · rw [decide_eq_false (show ¬ N / 2 ≤ j by omega)]
                  simp
                · rw [decide_eq_false q]
                  simp
          rw [← Nat.add_assoc, cnt_f hz, if_pos (by omega)]
          rw [if_neg (by omega)] at this
          omega
        · have hstep : cnt (12 * a + j + 1) (isC N S le) ≤ cnt (12 * a + j) (isC N S le) + 1 := by
            show cnt (12 * a + j) (isC N S le) + (if isC N S le (12 * a + j) then 1 else 0) ≤ _
            split <;> omega
          rw [← Nat.add_assoc]
          by_cases q : a < j
          · rw [if_pos q] at this
            rw [if_pos (by omega)]
            omega
          · rw [if_neg q] at this
            rw [if_neg (by omega)]
            omega
    have := row 12 (Nat.le_refl 12)
    rw [if_pos (by omega)] at this
    show cnt (12 * a + 12) (isC N S le) ≤ 11 * (a + 1)
    omega
section MRk
variable {σ : Sto} {N S : Nat} {ar : Nat → Nat} {hid : Nat → Bool} {grp : Nat → Nat} {v w s : Nat} {wt : Nat → Int}
set_option maxHeartbeats 2000000 in
theorem rank_ok {Post : Int32 → Sto → Prop} (h : MB σ.1 N S ar hid grp v w s) (hc : MCa σ N S (prt N S (lead ar hid) grp v w s)) (hw : MWt σ.1 wt)
    (hp : ∀ σ' : Sto, Kr σ σ' → MCa σ' N S (prt N S (lead ar hid) grp v w s) → (∀ j, j < cnt 144 (isC N S (lead ar hid)) → σ'.1 13 j = nI (nth (isC N S (lead ar hid)) 144 (rk (fun i => mvp (prt N S (lead ar hid) grp v w s) wt (nth (isC N S (lead ar hid)) 144 i)) (cnt 144 (isC N S (lead ar hid))) j))) → (∀ q, q < 144 → isC N S (lead ar hid) q = true → σ'.2 14 q = lz (fT (mvp (prt N S (lead ar hid) grp v w s) wt q)) ∧ σ'.2 15 q = lz (fB (mvp (prt N S (lead ar hid) grp v w s) wt q))) → Post (nI (cnt 144 (isC N S (lead ar hid)))) σ') : X8_rank_wp σ Post := by
  have hPl : ∀ k a b, prt N S (lead ar hid) grp v w s k a b ≤ 1404 * SC := prt_le h.1.2.2.1 h.2.2.1.2.1 h.2.2.1.2.2.2.1
  have hN := h.1.2.2.1
  have hw2 : ∀ k, k < 11 → -99 ≤ wt k ∧ wt k ≤ 99 := fun k hk => (hw k hk).2
  intro K4 K14 K79 h4 h14 h79
  generalize hPe : prt N S (lead ar hid) grp v w s = P at *
  generalize hCe : isC N S (lead ar hid) = C at *
  have hmv : ∀ q, (mvp P wt q).natAbs < 2 ^ 63 := fun q => mixv_lt hPl hw2 _ _
  have c132 : ∀ p, p ≤ 144 → cnt p C ≤ 132 := by
    intro p hp
    have h1 : cnt 144 (isC N S (lead ar hid)) ≤ 132 := cntC_le N S (lead ar hid) 12 (Nat.le_refl 12)
    rw [hCe] at h1
    have := cnt_mono_n C hp
    omega
  generalize hke : (fun i => mvp P wt (nth C 144 i)) = key at *
  have hkey : ∀ i, key i = mvp P wt (nth C 144 i) := fun i => by rw [← hke]
  -- what holds with p pairs behind
  let Inv : Nat → Sto → Prop := fun p τ => Kr σ τ ∧ MCa τ N S P ∧ (∀ j, j < cnt p C → τ.1 13 j = nI (nth C 144 (rk key (cnt p C) j))) ∧ (∀ q, q < p → C q = true → τ.2 14 q = lz (fT (mvp P wt q)) ∧ τ.2 15 q = lz (fB (mvp P wt q)))
  -- one insertion
  have insert : ∀ (a b : Nat), a < N → b < N → C (12 * a + b) = true → (∀ τ, Inv (12 * a + b + 1) τ → K14 τ (nI (cnt (12 * a + b + 1) C)) (nI a) (nI (b + 1))) →
      ∀ t, t ≤ cnt (12 * a + b) C → pos key (rk key (cnt (12 * a + b) C)) (cnt (12 * a + b) C) (cnt (12 * a + b) C) = pos key (rk key (cnt (12 * a + b) C)) (cnt (12 * a + b) C) t → ∀ τ : Sto, Kr σ τ → MCa τ N S P → (∀ j, j < t → τ.1 13 j = nI (nth C 144 (rk key (cnt (12 * a + b) C) j))) → (∀ j, t < j → j ≤ cnt (12 * a + b) C → τ.1 13 j = nI (nth C 144 (rk key (cnt (12 * a + b) C) (j - 1)))) → (∀ q, q < 12 * a + b + 1 → C q = true → τ.2 14 q = lz (fT (mvp P wt q)) ∧ τ.2 15 q = lz (fB (mvp P wt q))) → K79 τ (nI (cnt (12 * a + b) C)) (nI a) (nI b) (nI (12 * a + b)) (nI t) := by
    intro a b ha hb hC hend t
    have hm := c132 (12 * a + b + 1) (by omega)
    rw [cnt_t hC] at hm hend
    have hself := nth_cnt hC 144 (by omega)
    generalize hme : cnt (12 * a + b) C = m at *
    -- the end: x is laid at t
    have lay : ∀ (t : Nat), t ≤ m → pos key (rk key m) m m = t → ∀ τ : Sto, Kr σ τ → MCa τ N S P → (∀ j, j < t → τ.1 13 j = nI (nth C 144 (rk key m j))) → (∀ j, t < j → j ≤ m → τ.1 13 j = nI (nth C 144 (rk key m (j - 1)))) → (∀ q, q < 12 * a + b + 1 → C q = true → τ.2 14 q = lz (fT (mvp P wt q)) ∧ τ.2 15 q = lz (fB (mvp P wt q))) → K14 (sI τ 13 t (nI (12 * a + b))) (nI m + 1) (nI a) (nI b + 1) := by
      intro t ht hpos τ kr ca e1 e2 e3
      rw [nI_1, nI_1]
      refine hend _ ⟨⟨fun k h1 h2 h3 h4 => ?_, kr.2.1, kr.2.2⟩, ca.cong (sI_o _ _ _ (by decide)) rfl rfl, fun j hj => ?_, e3⟩
      · rw [sI_o _ _ _ h4]
        exact kr.1 k h1 h2 h3 h4
      · rw [cnt_t hC, hme] at hj ⊢
        show (sI τ 13 t (nI (12 * a + b))).1 13 j = nI (nth C 144 (if j < pos key (rk key m) m m then rk key m j else if j = pos key (rk key m) m m then m else rk key m (j - 1)))
        rw [hpos]
        by_cases q : j = t
        · subst q
          rw [sI_e, if_neg (Nat.lt_irrefl j), if_pos rfl, hself]
        · rw [sI_n _ _ _ q]
          by_cases q2 : j < t
          · rw [if_pos q2]
            exact e1 j q2
          · rw [if_neg q2, if_neg q]
            exact e2 j (by omega) (by omega)
    induction t with
    | zero =>
      intro ht hpos τ kr ca e1 e2 e3
      apply h79
      unfold X8_rank_b79
      refine ⟨fun _ => ⟨vp_in_nI (by omega) (by decide), ?_⟩, fun hn => absurd (by decide) hn⟩
      rw [nI_clamp (by omega)]
      exact lay 0 ht hpos τ kr ca e1 e2 e3
    | succ t ih =>
      intro ht hpos τ kr ca e1 e2 e3
      apply h79
      unfold X8_rank_b79
      rw [le0 (by omega), nI_pred, pk_m1, nI_clamp (by omega), nI_clamp (by omega), e1 t (by omega)]
      have vt : vp_in (nI t) 132 := vp_in_nI (by omega) (by decide)
      have vt1 : vp_in (nI (t + 1)) 132 := vp_in_nI (by omega) (by decide)
      refine ⟨fun hz => absurd hz (by omega), fun _ => ⟨vt, ?_⟩⟩
      have hrt := rk_lt key m t (by omega)
      have hn := nth_spec (f := C) 144 (rk key m t) (by
        have := cnt_mono_n C (show 12 * a + b ≤ 144 by omega)
        omega)
      have hlt : nth C 144 (rk key m t) < 12 * a + b := by
        rcases Nat.lt_or_ge (nth C 144 (rk key m t)) (12 * a + b) with q | q
        · exact q
        · have := cnt_mono_n C q
          rw [hn.2.2, hme] at this
          omega
      have eq1 := e3 _ (by omega) hn.1
      have eq2 := e3 (12 * a + b) (by omega) hC
      have km : key m = mvp P wt (12 * a + b) := by rw [hkey, hself]
      have kt : key (rk key m t) = mvp P wt (nth C 144 (rk key m t)) := hkey _
      have stop : ¬ key (rk key m t) < key m → K14 (sI τ 13 (t + 1) (nI (12 * a + b))) (nI m + 1) (nI a) (nI b + 1) := by
        intro hge
        refine lay (t + 1) ht ?_ τ kr ca e1 e2 e3
        rw [hpos]
        unfold pos
        rw [if_neg hge]
      refine compare_ok (by omega) (by omega) eq1.1 eq1.2 eq2.1 eq2.2 (hmv _) (hmv _) (fun hlt2 => ?_) (fun heq => ?_) (fun hgt => ?_)
      · refine ⟨fun hn => absurd hn (by decide), fun _ => ⟨vt, vt1, ?_⟩⟩
        rw [e1 t (by omega)]
        refine ih (by omega) ?_ _ ⟨fun k h1 h2 h3 h4 => ?_, kr.2.1, kr.2.2⟩ (ca.cong (sI_o _ _ _ (by decide)) rfl rfl) (fun j hj => ?_) (fun j hj hj2 => ?_) e3
        · rw [hpos]
          show (if key (rk key m t) < key m then pos key (rk key m) m t else t + 1) = _
          rw [if_pos (by rw [km, kt]; exact hlt2)]
        · rw [sI_o _ _ _ h4]
          exact kr.1 k h1 h2 h3 h4
        · rw [sI_n _ _ _ (by omega)]
          exact e1 j (by omega)
        · by_cases q : j = t + 1
          · subst q
            rw [sI_e, Nat.add_sub_cancel]
          · rw [sI_n _ _ _ q]
            exact e2 j (by omega) hj2
      · exact ⟨fun _ => ⟨vt1, stop (by rw [km, kt]; omega)⟩, fun hn => absurd (by decide) hn⟩
      · exact ⟨fun _ => ⟨vt1, stop (by rw [km, kt]; omega)⟩, fun hn => absurd (by decide) hn⟩
  -- the rows
  have rows : ∀ (j a : Nat), a + j = N → ∀ τ, Inv (12 * a) τ → K4 τ (nI (cnt (12 * a) C)) (nI a) := by
    intro j
    induction j with
    | zero =>
      intro a ha τ inv
      have ha : a = N := ha
      subst ha
      obtain ⟨kr, ca, e1, e2⟩ := inv
      have e144 : cnt 144 C = cnt (12 * a) C := cnt_same (by omega) (fun i h1 h2 => by
        rw [← hCe]
        unfold isC
        rw [decide_eq_false (show ¬ i / 12 < a by omega)]
        rfl)
      apply h4
      unfold X8_rank_b4
      rw [(h.kr kr).1.1]
      refine pk_le a a (fun _ => ?_) (fun hc => by omega)
      rw [← e144]
      refine hp τ kr ca (fun j hj => ?_) (fun q hq hCq => ?_)
      · rw [e144] at hj ⊢
        exact e1 j hj
      · refine e2 q ?_ hCq
        rcases Nat.lt_or_ge q (12 * a) with z | z
        · exact z
        · rw [← hCe] at hCq
          unfold isC at hCq
          rw [decide_eq_false (show ¬ q / 12 < a by omega)] at hCq
          cases hCq
    | succ j ih =>
      intro a ha τ inv
      apply h4
      unfold X8_rank_b4
      rw [(h.kr inv.1).1.1]
      refine pk_le N a (fun hc => by omega) (fun hc => ?_)
      -- the places of a row
      have cols : ∀ (j2 b : Nat), b + j2 = N → ∀ τ, Inv (12 * a + b) τ → K14 τ (nI (cnt (12 * a + b) C)) (nI a) (nI b) := by
        intro j2
        induction j2 with
        | zero =>
          intro b hb τ inv
          have hb : b = N := hb
          subst hb
          obtain ⟨kr, ca, e1, e2⟩ := inv
          have e12 : cnt (12 * (a + 1)) C = cnt (12 * a + b) C := cnt_same (by omega) (fun i h1 h2 => by
            rw [← hCe]
            unfold isC
            rw [decide_eq_false (show ¬ i % 12 < b by omega), Bool.and_false]
            rfl)
          apply h14
          unfold X8_rank_b14
          rw [(h.kr kr).1.1]
          refine pk_le b b (fun _ => ?_) (fun hc => by omega)
          rw [nI_1, ← e12]
          refine ih (a + 1) (by omega) τ ⟨kr, ca, fun j hj => ?_, fun q hq hCq => ?_⟩
          · rw [e12] at hj ⊢
            exact e1 j hj
          · refine e2 q ?_ hCq
            rcases Nat.lt_or_ge q (12 * a + b) with z | z
            · exact z
            · rw [← hCe] at hCq
              unfold isC at hCq
              rw [decide_eq_false (show ¬ q % 12 < b by omega), Bool.and_false] at hCq
              cases hCq
        | succ j2 ih2 =>
          intro b hb τ inv
          have inv0 := inv
          obtain ⟨kr, ca, e1, e2⟩ := inv
          have hτ := h.kr kr
          have ea : (12 * a + b) / 12 = a := by omega
          have eb : (12 * a + b) % 12 = b := by omega
          have skip : C (12 * a + b) = false → K14 τ (nI (cnt (12 * a + b) C)) (nI a) (nI b + 1) := by
            intro hf
            have := ih2 (b + 1) (by omega) τ ⟨kr, ca, fun j hj => ?_, fun q hq hCq => ?_⟩
            · rw [← Nat.add_assoc, cnt_f hf, ← nI_1] at this
              exact this
            · rw [← Nat.add_assoc, cnt_f hf] at hj ⊢
              exact e1 j hj
            · refine e2 q ?_ hCq
              rcases Nat.lt_or_ge q (12 * a + b) with z | z
              · exact z
              · have : q = 12 * a + b := by omega
                rw [this, hf] at hCq
                cases hCq
          apply h14
          unfold X8_rank_b14
          rw [hτ.1.1]
          refine pk_le N b (fun hc => by omega) (fun hc => ?_)
          refine isPair_ok hτ.1 (by omega) (by omega) (b2i_fi _ (fun hb1 => ?_) (fun hb1 => skip ?_))
          · refine isCandidate_ok hτ.1 (by omega) (by omega) (b2i_fi _ (fun hb2 => ?_) (fun hb2 => skip ?_))
            · have hC : C (12 * a + b) = true := by
                rw [← hCe]
                unfold isC
                rw [ea, eb, decide_eq_true (show a < N by omega), decide_eq_true (show b < N by omega), hb1, hb2]
                rfl
              refine mix_ok hτ (by rw [hPe]; exact ca) (hw.kr kr) (by omega) (by omega) hb1 (fun υ kυ cυ et ebt => ?_)
              rw [hPe] at cυ et ebt
              rw [ix]
              have vi : vp_in (nI (12 * a + b)) 144 := vp_in_nI (by omega) (by decide)
              refine ⟨vi, vi, ?_⟩
              rw [nI_clamp (by omega), et, ebt]
              have k13 : υ.1 13 = τ.1 13 := kυ.1 13 (by decide) (by decide) (by decide)
              have k14 : υ.2 14 = τ.2 14 := kυ.2.1 14 (by decide) (by decide) (by decide)
              have k15 : υ.2 15 = τ.2 15 := kυ.2.1 15 (by decide) (by decide) (by decide)
              have emv : mixv P wt a b = mvp P wt (12 * a + b) := by
                unfold mvp
                rw [ea, eb]
              rw [emv]
              refine insert a b (by omega) (by omega) hC (fun τ i => ih2 (b + 1) (by omega) τ i) (cnt (12 * a + b) C) (Nat.le_refl _) rfl _ ⟨fun k h1 h2 h3 h4 => ?_, fun k h1 h2 h3 h4 h5 => ?_, fun j h1 h2 => ?_⟩ (cυ.cong rfl ?_ ?_) (fun j hj => ?_) (fun j hj hj2 => by omega) (fun q hq hCq => ?_)
              · exact (kr.tr kυ.kr).1 k h1 h2 h3 h4
              · rw [sJ_o _ _ _ h5, sJ_o _ _ _ h4]
                exact (kr.tr kυ.kr).2.1 k h1 h2 h3 h4 h5
              · rw [sJ_o _ _ _ (by decide), sJ_o _ _ _ (by decide)]
                exact (kr.tr kυ.kr).2.2 j h1 h2
              · rw [sJ_o _ _ _ (by decide), sJ_o _ _ _ (by decide)]
              · rw [sJ_o _ _ _ (by decide), sJ_o _ _ _ (by decide)]
              · show υ.1 13 j = _
                rw [k13]
                exact e1 j hj
              · by_cases z : q = 12 * a + b
                · subst z
                  rw [sJ_o _ _ _ (by decide), sJ_e, sJ_e]
                  exact ⟨rfl, rfl⟩
                · have := e2 q (by omega) hCq
                  rw [sJ_o _ _ _ (by decide), sJ_n _ _ _ z, sJ_n _ _ _ z, sJ_o _ _ _ (by decide), k14, k15]
                  exact this
            · rw [← hCe]
              unfold isC
              rw [ea, eb, hb2, Bool.and_false, Bool.and_false]
          · rw [← hCe]
            unfold isC
            rw [ea, eb, hb1, Bool.false_and, Bool.and_false]
      exact cols N 0 (by omega) τ inv
  exact rows N 0 (by omega) σ ⟨Kr.rf σ, hc, fun j hj => by simp [cnt] at hj, fun q hq => by omega⟩
end MRk
