/-! what both sides are held against: counts, sums, fractions over SC -/
theorem down (P : Nat → Prop) (N : Nat) (base : P N) (step : ∀ i, i < N → P (i + 1) → P i) : P 0 := by
  have h : ∀ j i, i + j = N → P i := by
    intro j
    induction j with
    | zero =>
      intro i hi
      have e : i = N := hi
      subst e
      exact base
    | succ j ih =>
      intro i hi
      exact step i (by omega) (ih (i + 1) (by omega))
  exact h N 0 (by omega)
theorem downFrom (P : Nat → Prop) (s N : Nat) (hs : s ≤ N) (base : P N) (step : ∀ i, s ≤ i → i < N → P (i + 1) → P i) : P s := by
  have h : ∀ j i, s ≤ i → i + j = N → P i := by
    intro j
    induction j with
    | zero =>
      intro i _ hi
      have e : i = N := hi
      subst e
      exact base
    | succ j ih =>
      intro i h0 hi
      exact step i h0 (by omega) (ih (i + 1) (by omega) (by omega))
  exact h (N - s) s (Nat.le_refl s) (by omega)
def cnt : Nat → (Nat → Bool) → Nat
  | 0, _ => 0
  | n + 1, f => cnt n f + (if f n then 1 else 0)
def smN : Nat → (Nat → Nat) → Nat
  | 0, _ => 0
  | n + 1, f => smN n f + f n
def anyB : Nat → (Nat → Bool) → Bool
  | 0, _ => false
  | n + 1, f => anyB n f || f n
def smI : Nat → (Nat → Int) → Int
  | 0, _ => 0
  | n + 1, f => smI n f + f n
theorem cnt_t {n : Nat} {f : Nat → Bool} (h : f n = true) : cnt (n + 1) f = cnt n f + 1 := by
  show cnt n f + (if f n then 1 else 0) = _
  rw [h]
  rfl
theorem cnt_f {n : Nat} {f : Nat → Bool} (h : f n = false) : cnt (n + 1) f = cnt n f := by
  show cnt n f + (if f n then 1 else 0) = _
  rw [h]
  rfl
theorem smN_s (n : Nat) (f : Nat → Nat) : smN (n + 1) f = smN n f + f n := rfl
theorem smI_s (n : Nat) (f : Nat → Int) : smI (n + 1) f = smI n f + f n := rfl
theorem anyB_s (n : Nat) (f : Nat → Bool) : anyB (n + 1) f = (anyB n f || f n) := rfl
theorem nI_p0 (a : Nat) : nI a + 0 = nI a := nI_add a 0
theorem cnt_le (n : Nat) (f : Nat → Bool) : cnt n f ≤ n := by
  induction n with
  | zero => exact Nat.le_refl 0
  | succ n ih =>
    unfold cnt
    split <;> omega
theorem cnt_congr {n : Nat} {f g : Nat → Bool} (h : ∀ i, i < n → f i = g i) : cnt n f = cnt n g := by
  induction n with
  | zero => rfl
  | succ n ih =>
    unfold cnt
    rw [ih (fun i hi => h i (by omega)), h n (by omega)]
theorem smN_congr {n : Nat} {f g : Nat → Nat} (h : ∀ i, i < n → f i = g i) : smN n f = smN n g := by
  induction n with
  | zero => rfl
  | succ n ih =>
    unfold smN
    rw [ih (fun i hi => h i (by omega)), h n (by omega)]
theorem smI_congr {n : Nat} {f g : Nat → Int} (h : ∀ i, i < n → f i = g i) : smI n f = smI n g := by
  induction n with
  | zero => rfl
  | succ n ih =>
    unfold smI
    rw [ih (fun i hi => h i (by omega)), h n (by omega)]
theorem anyB_congr {n : Nat} {f g : Nat → Bool} (h : ∀ i, i < n → f i = g i) : anyB n f = anyB n g := by
  induction n with
  | zero => rfl
  | succ n ih =>
    unfold anyB
    rw [ih (fun i hi => h i (by omega)), h n (by omega)]
theorem anyB_iff {n : Nat} {f : Nat → Bool} : anyB n f = true ↔ ∃ i, i < n ∧ f i = true := by
  induction n with
  | zero => simp [anyB]
  | succ n ih =>
    unfold anyB
    rw [Bool.or_eq_true, ih]
    constructor
    · rintro (⟨i, h1, h2⟩ | h)
      · exact ⟨i, by omega, h2⟩
      · exact ⟨n, by omega, h⟩
    · rintro ⟨i, h1, h2⟩
      by_cases e : i = n
      · subst e
        exact Or.inr h2
      · exact Or.inl ⟨i, by omega, h2⟩
theorem smN_le {n b : Nat} {f : Nat → Nat} (h : ∀ i, i < n → f i ≤ b) : smN n f ≤ n * b := by
  induction n with
  | zero => simp [smN]
  | succ n ih =>
    unfold smN
    have h1 := ih (fun i hi => h i (by omega))
    have h2 := h n (by omega)
    rw [Nat.succ_mul]
    omega
theorem cnt_mono {n : Nat} {f g : Nat → Bool} (h : ∀ i, i < n → f i = true → g i = true) : cnt n f ≤ cnt n g := by
  induction n with
  | zero => exact Nat.le_refl 0
  | succ n ih =>
    unfold cnt
    have h1 := ih (fun i hi => h i (by omega))
    by_cases e : f n = true
    · rw [if_pos e, if_pos (h n (by omega) e)]
      omega
    · rw [if_neg e]
      split <;> omega
def b2i (b : Bool) : Int32 := if b then 1 else 0
theorem b2i_t {b : Bool} (h : b = true) : b2i b = 1 := by rw [h]; rfl
theorem b2i_f {b : Bool} (h : b = false) : b2i b = 0 := by rw [h]; rfl
/-- longs by their numbers -/
def lz (z : Int) : Int64 := Int64.ofInt z
theorem lz_toInt {z : Int} (h1 : -2 ^ 63 ≤ z) (h2 : z < 2 ^ 63) : (lz z).toInt = z := by
  unfold lz
  rw [Int64.toInt_ofInt]
  exact Kit.bmod64 h1 h2
theorem lz_add (a b : Int) : lz a + lz b = lz (a + b) := (Int64.ofInt_add a b).symm
theorem lz_mul (a b : Int) : lz a * lz b = lz (a * b) := (Int64.ofInt_mul a b).symm
theorem lz_sub (a b : Int) : lz a - lz b = lz (a - b) := (Int64.ofInt_sub a b).symm
theorem lz_neg (a : Int) : -lz a = lz (-a) := (Int64.ofInt_neg a).symm
theorem lz_of (x : Int64) : x = lz x.toInt := by
  unfold lz
  rw [Int64.ofInt_toInt]
theorem lz_ext {x : Int64} {z : Int} (h : x.toInt = z) : x = lz z := by rw [← h]; exact lz_of x
theorem lz_div {a b : Int} (ha1 : -2 ^ 63 < a) (ha2 : a < 2 ^ 63) (hb1 : 0 < b) (hb2 : b < 2 ^ 63) : lz a / lz b = lz (a.tdiv b) := by
  apply lz_ext
  rw [Kit.i64_div (by rw [lz_toInt (by omega) ha2]; omega), lz_toInt (by omega) ha2, lz_toInt (by omega) hb2]
theorem lz_rem {a b : Int} (ha1 : 0 ≤ a) (ha2 : a < 2 ^ 63) (hb1 : 0 < b) (hb2 : b < 2 ^ 63) : lz a - lz a / lz b * lz b = lz (a % b) := by
  apply lz_ext
  rw [Kit.i64_rem_nonneg (by rw [lz_toInt (by omega) ha2]; exact ha1), lz_toInt (by omega) ha2, lz_toInt (by omega) hb2]
theorem lz_lt {a b : Int} (ha1 : -2 ^ 63 ≤ a) (ha2 : a < 2 ^ 63) (hb1 : -2 ^ 63 ≤ b) (hb2 : b < 2 ^ 63) : lz a < lz b ↔ a < b := by
  rw [Int64.lt_iff_toInt_lt, lz_toInt ha1 ha2, lz_toInt hb1 hb2]
theorem lz_le {a b : Int} (ha1 : -2 ^ 63 ≤ a) (ha2 : a < 2 ^ 63) (hb1 : -2 ^ 63 ≤ b) (hb2 : b < 2 ^ 63) : lz a ≤ lz b ↔ a ≤ b := by
  rw [Int64.le_iff_toInt_le, lz_toInt ha1 ha2, lz_toInt hb1 hb2]
theorem lz_eq {a b : Int} (ha1 : -2 ^ 63 ≤ a) (ha2 : a < 2 ^ 63) (hb1 : -2 ^ 63 ≤ b) (hb2 : b < 2 ^ 63) : lz a = lz b ↔ a = b := by
  constructor
  · intro h
    rw [← lz_toInt ha1 ha2, h, lz_toInt hb1 hb2]
  · intro h
    rw [h]
theorem lz_0 : (0 : Int64) = lz 0 := by decide +kernel
theorem lz_1 : (1 : Int64) = lz 1 := by decide +kernel
theorem lz_2 : (2 : Int64) = lz 2 := by decide +kernel
theorem nI_lz {n : Nat} (h : n < 2 ^ 31) : (nI n).toInt64 = lz n := by
  apply lz_ext
  rw [Int32.toInt_toInt64, nI_toInt h]
/-- the common denominator, and a fraction over it in least numbers -/
def SC : Nat := 3226504881600
theorem SC_lz : (3226504881600 : Int64) = lz SC := by decide +kernel
theorem SC_pos : 0 < SC := by decide
theorem SC_lt : SC < 2 ^ 42 := by decide
def fG (P : Int) : Nat := Nat.gcd P.natAbs SC
def fT (P : Int) : Int := P / (fG P : Int)
def fB (P : Int) : Nat := SC / fG P
theorem fG_pos (P : Int) : 0 < fG P := Nat.gcd_pos_of_pos_right _ SC_pos
theorem fG_dvd (P : Int) : fG P ∣ SC := Nat.gcd_dvd_right _ _
theorem fG_dvdI (P : Int) : (fG P : Int) ∣ P := Int.ofNat_dvd_left.mpr (Nat.gcd_dvd_left _ _)
theorem fB_pos (P : Int) : 0 < fB P := Nat.div_pos (Nat.le_of_dvd SC_pos (fG_dvd P)) (fG_pos P)
theorem fB_le (P : Int) : fB P ≤ SC := Nat.div_le_self _ _
theorem fB_dvd (P : Int) : fB P ∣ SC := Nat.div_dvd_of_dvd (fG_dvd P)
theorem fT_mul (P : Int) : fT P * (fG P : Int) = P := Int.ediv_mul_cancel (fG_dvdI P)
theorem fB_mul (P : Int) : fB P * fG P = SC := Nat.div_mul_cancel (fG_dvd P)
theorem SC_div_fB (P : Int) : SC / fB P = fG P := by
  have h := fB_mul P
  have hp := fB_pos P
  exact Nat.div_eq_of_eq_mul_right hp h.symm
theorem fT_abs (P : Int) : (fT P).natAbs ≤ P.natAbs := by
  have h := fT_mul P
  have hp := fG_pos P
  have e : P.natAbs = (fT P).natAbs * fG P := by
    rw [← Int.natAbs_natCast (fG P), ← Int.natAbs_mul, h]
  rw [e]
  exact Nat.le_mul_of_pos_right _ hp
/-- a by b, b a part of SC: its least numbers are those of a * (SC / b) over SC -/
theorem frac_of {a : Int} {b : Nat} (hb : b ∣ SC) : fT (a * ((SC / b : Nat) : Int)) = a / ((Nat.gcd a.natAbs b : Nat) : Int) ∧ fB (a * ((SC / b : Nat) : Int)) = b / Nat.gcd a.natAbs b := by
  obtain ⟨k, hk⟩ := hb
  have hb0 : 0 < b := Nat.pos_of_ne_zero (fun h => by rw [h, Nat.zero_mul] at hk; exact absurd SC_pos (by omega))
  have hk0 : 0 < k := Nat.pos_of_ne_zero (fun h => by rw [h, Nat.mul_zero] at hk; exact absurd SC_pos (by omega))
  have e1 : SC / b = k := by rw [hk]; exact Nat.mul_div_cancel_left k hb0
  rw [e1]
  have e2 : fG (a * (k : Int)) = Nat.gcd a.natAbs b * k := by
    unfold fG
    rw [Int.natAbs_mul, Int.natAbs_natCast, hk, Nat.gcd_mul_right]
  constructor
  · unfold fT
    rw [e2, Int.natCast_mul]
    exact Int.mul_ediv_mul_of_pos_left a _ (by omega)
  · unfold fB
    rw [e2, hk]
    exact Nat.mul_div_mul_right b _ hk0
