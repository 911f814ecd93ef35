/-! sets of nodes as bits; what the class's store shows of the state -/
theorem nI_and (a b : Nat) : nI a &&& nI b = nI (a &&& b) := Int32.toBitVec_inj.mp (by rw [Int32.toBitVec_and]; exact BitVec.ofNat_and.symm)
theorem nI_or (a b : Nat) : nI a ||| nI b = nI (a ||| b) := Int32.toBitVec_inj.mp (by rw [Int32.toBitVec_or]; exact BitVec.ofNat_or.symm)
theorem nI_xor (a b : Nat) : nI a ^^^ nI b = nI (a ^^^ b) := Int32.toBitVec_inj.mp (by rw [Int32.toBitVec_xor]; exact BitVec.ofNat_xor.symm)
def rep (x : Int32) (f : Nat → Bool) : Prop := ∃ m, m < 4096 ∧ x = nI m ∧ ∀ k, k < 12 → m.testBit k = f k
theorem rep.cong {x : Int32} {f g : Nat → Bool} (h : rep x f) (e : ∀ k, k < 12 → f k = g k) : rep x g := by
  obtain ⟨m, h1, h2, h3⟩ := h
  exact ⟨m, h1, h2, fun k hk => (h3 k hk).trans (e k hk)⟩
theorem rep.and {x y : Int32} {f g : Nat → Bool} (h : rep x f) (h2 : rep y g) : rep (x &&& y) (fun k => f k && g k) := by
  obtain ⟨m, a1, a2, a3⟩ := h
  obtain ⟨n, b1, b2, b3⟩ := h2
  refine ⟨m &&& n, Nat.and_lt_two_pow (n := 12) m b1, by rw [a2, b2, nI_and], fun k hk => ?_⟩
  rw [Nat.testBit_and, a3 k hk, b3 k hk]
theorem rep.or {x y : Int32} {f g : Nat → Bool} (h : rep x f) (h2 : rep y g) : rep (x ||| y) (fun k => f k || g k) := by
  obtain ⟨m, a1, a2, a3⟩ := h
  obtain ⟨n, b1, b2, b3⟩ := h2
  refine ⟨m ||| n, Nat.or_lt_two_pow (n := 12) a1 b1, by rw [a2, b2, nI_or], fun k hk => ?_⟩
  rw [Nat.testBit_or, a3 k hk, b3 k hk]
theorem rep0 : rep 0 (fun _ => false) := ⟨0, by decide, nI_0.symm, fun k _ => Nat.zero_testBit k⟩
theorem one_shl : ∀ k, k < 12 → (1 : Int32) <<< (nI k &&& 31) = nI (2 ^ k) := by decide +kernel
theorem rep_one {k : Nat} (hk : k < 12) : rep ((1 : Int32) <<< (nI k &&& 31)) (fun j => decide (k = j)) := by
  refine ⟨2 ^ k, ?_, one_shl k hk, fun j _ => Nat.testBit_two_pow⟩
  calc 2 ^ k < 2 ^ 12 := Nat.pow_lt_pow_right (by decide) hk
    _ = 4096 := by decide
theorem rep.without {x : Int32} {f : Nat → Bool} (h : rep x f) {k : Nat} (hk : k < 12) : rep (x &&& (((1 : Int32) <<< (nI k &&& 31)) ^^^ (-1 : Int32))) (fun j => f j && !decide (k = j)) := by
  obtain ⟨m, a1, a2, a3⟩ := h
  rw [one_shl k hk, a2, show (-1 : Int32) = nI (2 ^ 32 - 1) by decide +kernel, nI_xor, nI_and]
  refine ⟨m &&& (2 ^ k ^^^ (2 ^ 32 - 1)), Nat.lt_of_le_of_lt Nat.and_le_left a1, rfl, fun j hj => ?_⟩
  rw [Nat.testBit_and, Nat.testBit_xor, Nat.testBit_two_pow, Nat.testBit_two_pow_sub_one, a3 j hj, decide_eq_true (show j < 32 by omega)]
  show (f j && (decide (k = j) ^^ true)) = (f j && !decide (k = j))
  generalize decide (k = j) = d
  cases d <;> cases f j <;> rfl
theorem sh12 : ∀ k, k < 12 → ((nI k &&& (31 : Int32)).toBitVec.smod 32).toNat = k := by decide +kernel
theorem rep.bit {x : Int32} {f : Nat → Bool} (h : rep x f) {k : Nat} (hk : k < 12) : (x >>> (nI k &&& 31)) &&& (1 : Int32) = b2i (f k) := by
  obtain ⟨m, a1, a2, a3⟩ := h
  rw [a2, pk_shrN (by omega) _ k (sh12 k hk), pk_andN (by have := Nat.div_le_self m (2 ^ k); omega) 1 (by decide), ← a3 k hk, Nat.testBit_eq_decide_div_mod_eq]
  have : m / 2 ^ k % 2 < 2 := Nat.mod_lt _ (by decide)
  by_cases e : m / 2 ^ k % 2 = 1
  · rw [decide_eq_true e, show m / 2 ^ k % 2 ^ 1 = 1 from e]
    rfl
  · rw [decide_eq_false e, show m / 2 ^ k % 2 ^ 1 = 0 by omega]
    rfl
theorem has_ok {σ : Sto} {x : Int32} {f : Nat → Bool} {k : Nat} {Post : Int32 → Sto → Prop} (h : rep x f) (hk : k < 12) (hp : Post (b2i (f k)) σ) : X6_has_wp σ x (nI k) Post := by
  unfold X6_has_wp
  rw [h.bit hk]
  cases e : f k
  · rw [e] at hp
    exact ⟨fun _ => hp, fun q => absurd q (by decide)⟩
  · rw [e] at hp
    exact ⟨fun q => absurd rfl q, fun _ => hp⟩
/-! bitCount below 4096 -/
def bc1 (m : Nat) : Nat := m - (m / 2 &&& 1431655765)
def bc2 (a : Nat) : Nat := (a &&& 858993459) + (a / 4 &&& 858993459)
def bc3 (b : Nat) : Nat := (b + b / 16) &&& 252645135
def bc4 (c : Nat) : Nat := c + c / 256
def bc5 (d : Nat) : Nat := (d + d / 65536) % 64
theorem bcN_64 : ∀ a, a < 64 → ∀ b, b < 64 → (64 * a + b) / 2 &&& 1431655765 ≤ 64 * a + b ∧ bc5 (bc4 (bc3 (bc2 (bc1 (64 * a + b))))) = cnt 12 (64 * a + b).testBit := by decide +kernel
theorem bcN_ok {m : Nat} (h : m < 4096) : m / 2 &&& 1431655765 ≤ m ∧ bc5 (bc4 (bc3 (bc2 (bc1 m)))) = cnt 12 m.testBit := by
  have := bcN_64 (m / 64) (by omega) (m % 64) (Nat.mod_lt _ (by decide))
  rw [Nat.div_add_mod] at this
  exact this
theorem ush1 {n : Nat} (h : n < 2 ^ 32) : ((nI n).toUInt32 >>> (((1 : Int32)).toUInt32 &&& Int32.toUInt32 31)).toInt32 = nI (n / 2) := pk_ushrN h 1 1 (by decide)
theorem ush2 {n : Nat} (h : n < 2 ^ 32) : ((nI n).toUInt32 >>> (((2 : Int32)).toUInt32 &&& Int32.toUInt32 31)).toInt32 = nI (n / 4) := pk_ushrN h 2 2 (by decide)
theorem ush4 {n : Nat} (h : n < 2 ^ 32) : ((nI n).toUInt32 >>> (((4 : Int32)).toUInt32 &&& Int32.toUInt32 31)).toInt32 = nI (n / 16) := pk_ushrN h 4 4 (by decide)
theorem ush8 {n : Nat} (h : n < 2 ^ 32) : ((nI n).toUInt32 >>> (((8 : Int32)).toUInt32 &&& Int32.toUInt32 31)).toInt32 = nI (n / 256) := pk_ushrN h 8 8 (by decide)
theorem ush16 {n : Nat} (h : n < 2 ^ 32) : ((nI n).toUInt32 >>> (((16 : Int32)).toUInt32 &&& Int32.toUInt32 31)).toInt32 = nI (n / 65536) := pk_ushrN h 16 16 (by decide)
theorem bitCount_ok {σ : Sto} {x : Int32} {f : Nat → Bool} {Post : Int32 → Sto → Prop} (h : rep x f) (hp : Post (nI (cnt 12 f)) σ) : J6_bitCount_0f7a4_wp σ x Post := by
  obtain ⟨m, a1, a2, a3⟩ := h
  subst a2
  unfold J6_bitCount_0f7a4_wp
  obtain ⟨l1, l2⟩ := bcN_ok a1
  rw [ush1 (by omega), show (1431655765 : Int32) = nI 1431655765 from rfl, nI_and, pk_sub l1, show m - (m / 2 &&& 1431655765) = bc1 m from rfl]
  have ha : bc1 m < 4096 := by
    unfold bc1
    omega
  generalize bc1 m = a at *
  have hb : bc2 a < 2 * 4096 := by
    have q1 : a &&& 858993459 ≤ a := Nat.and_le_left
    have q2 : a / 4 &&& 858993459 ≤ a / 4 := Nat.and_le_left
    unfold bc2
    omega
  rw [ush2 (by omega), show (858993459 : Int32) = nI 858993459 from rfl, nI_and, nI_and, nI_add, show (a &&& 858993459) + (a / 4 &&& 858993459) = bc2 a from rfl]
  generalize bc2 a = b at *
  have hc : bc3 b ≤ b + b / 16 := Nat.and_le_left
  rw [ush4 (by omega), show (252645135 : Int32) = nI 252645135 from rfl, nI_add, nI_and, show (b + b / 16) &&& 252645135 = bc3 b from rfl]
  generalize bc3 b = c at *
  rw [ush8 (by omega), nI_add, show c + c / 256 = bc4 c from rfl]
  have hd : bc4 c < 2 ^ 20 := by
    unfold bc4
    omega
  generalize bc4 c = d at *
  rw [ush16 (by omega), nI_add, pk_andN (by omega) 6 (by decide), show (d + d / 65536) % 2 ^ 6 = bc5 d from rfl, l2, cnt_congr a3]
  exact hp
/-! the class's store -/
def XN (I : Nat → Nat → Int32) (g : GS) : Prop := I 1 0 = nI (gN g) ∧ 2 ≤ gN g ∧ gN g ≤ 12 ∧ I 1 1 = nI (gS g) ∧ gS g ≤ 2 ∧ I 1 2 = nI (cnt 144 (isPr (gN g) (gS g))) ∧ I 1 3 = nI (gc g) ∧
  (∀ i, i < cnt 144 (isPr (gN g) (gS g)) → I 2 i = nI (nth (isPr (gN g) (gS g)) 144 i / 12) ∧ I 3 i = nI (nth (isPr (gN g) (gS g)) 144 i % 12)) ∧
  (∀ x y, x < gN g → y < gN g → I 7 (12 * x + y) = if tld (gN g) (gS g) x y then nI (cnt (ori (gN g) (gS g) x y) (isPr (gN g) (gS g))) else -1)
def stc (ar : Nat → Nat) (hid : Nat → Bool) (p : Nat) : Nat := if ar p = 0 then 0 else if hid (ar p - 1) then 2 else 1
def XA (I : Nat → Nat → Int32) (g : GS) : Prop := (∀ i, i < cnt 144 (isPr (gN g) (gS g)) → I 4 i = nI (stc (gar g) (ghid g) (nth (isPr (gN g) (gS g)) 144 i))) ∧ (∀ k, k < gc g → I 6 k = nI (cnt (gpo g k) (isPr (gN g) (gS g))) ∧ I 5 (cnt (gpo g k) (isPr (gN g) (gS g))) = gtm g k) ∧
  (∀ x, x < 12 → rep (I 9 x) (lead (gar g) (ghid g) x) ∧ rep (I 10 x) (fun y => lead (gar g) (ghid g) y x))
def XG (I : Nat → Nat → Int32) (g : GS) : Prop := ∀ x, x < 12 → I 8 x = nI (ggrp g x) ∧ ggrp g x < 4
def XP (I : Nat → Nat → Int32) (g : GS) : Prop := I 11 1 = nI (gv g) ∧ gv g ≤ 9 ∧ I 11 2 = nI (gw g) ∧ gw g ≤ 9 ∧ I 11 3 = nI (gs g) ∧ (gs g = 1 ∨ gs g = 2)
def XW (I : Nat → Nat → Int32) (wt : Nat → Int) : Prop := ∀ k, k < 11 → I 13 k = iz (wt k) ∧ -99 ≤ wt k ∧ wt k ≤ 99
def XI (σ : Sto) (g : GS) : Prop := XN σ.1 g ∧ XA σ.1 g ∧ XG σ.1 g ∧ XP σ.1 g ∧ XW σ.1 (gwt g) ∧ σ.2 29 0 = gbt g ∧ σ.2 29 1 = gbb g ∧ GI (gN g) (gS g) (gc g) (gar g) (gpo g)
/-- arcs lead between nodes alone, and in sort 2 between the sides -/
theorem GI.nodes {N S c : Nat} {ar po : Nat → Nat} (h : GI N S c ar po) {x y : Nat} (hx : x < 12) (hy : y < 12) (hl : 0 < ar (12 * x + y)) : x < N ∧ y < N ∧ tld N S x y = true := by
  obtain ⟨h1, h2⟩ := h.2 (12 * x + y) (by omega) hl
  have hk := h.1 (ar (12 * x + y) - 1) (by omega)
  have hp := isPr_iff.mp hk.2.1
  unfold tld
  rcases h2 with q | ⟨hS, q⟩
  · rw [← q] at hp
    rw [show (12 * x + y) / 12 = x by omega, show (12 * x + y) % 12 = y by omega] at hp
    exact ⟨hp.1, hp.2.1, by rw [hp.2.2]; rfl⟩
  · have hs := swp_div hk.1
    rw [← q] at hs
    rw [show (12 * x + y) / 12 = x by omega, show (12 * x + y) % 12 = y by omega] at hs
    rw [← hs.1, ← hs.2.1] at hp
    exact ⟨hp.2.1, hp.1, by rw [hp.2.2, decide_eq_true hS]; simp⟩
theorem lead_ar {ar : Nat → Nat} {hid : Nat → Bool} {x y : Nat} (h : lead ar hid x y = true) : 0 < ar (12 * x + y) := by
  unfold lead at h
  rw [Bool.and_eq_true, decide_eq_true_eq] at h
  exact h.1
theorem cnt12 {N : Nat} {f : Nat → Bool} (hN : N ≤ 12) (h : ∀ y, y < 12 → f y = true → y < N) : cnt 12 f = cnt N f := cnt_same hN (fun i h1 h2 => by
  cases e : f i
  · rfl
  · have := h i h2 e
    omega)
theorem anyN {N n : Nat} {f : Nat → Bool} (hN : n ≤ N) (h : ∀ y, y < N → f y = true → y < n) : anyB N f = anyB n f := by
  cases e : anyB n f
  · cases e2 : anyB N f
    · rfl
    · obtain ⟨i, h1, h2⟩ := anyB_iff.mp e2
      have : anyB n f = true := anyB_iff.mpr ⟨i, h i h1 h2, h2⟩
      rw [e] at this
      cases this
  · obtain ⟨i, h1, h2⟩ := anyB_iff.mp e
    exact anyB_iff.mpr ⟨i, by omega, h2⟩
