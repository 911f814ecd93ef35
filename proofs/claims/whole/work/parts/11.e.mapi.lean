/-! ranked, place, among, share, sample -/
def gm (g : GS) : Nat := cnt 144 (gC g)
def gkey (g : GS) : Nat → Int := fun i => mvp (gP g) (gwt g) (nth (gC g) 144 i)
def gord (g : GS) (j : Nat) : Nat := nth (gC g) 144 (rk (gkey g) (gm g) j)
theorem gm_le (g : GS) : gm g ≤ 132 := cntC_le (gN g) (gS g) (lead (gar g) (ghid g)) 12 (Nat.le_refl 12)
theorem gord_lt {g : GS} {j : Nat} (h : j < gm g) : gord g j < 144 ∧ gC g (gord g j) = true := by
  have := rk_lt (gkey g) (gm g) j h
  obtain ⟨a, b, -⟩ := nth_spec (f := gC g) 144 (rk (gkey g) (gm g) j) this
  exact ⟨b, a⟩
theorem mRank {σ : Sto} {g : GS} {Post : Int32 → Sto → Prop} (h : MI σ g) (hp : ∀ σ' : Sto, MI σ' g → (∀ j, j < gm g → σ'.1 13 j = nI (gord g j)) → Post (nI (gm g)) σ') : X8_rank_wp σ Post :=
  rank_ok h.1 h.2.1 h.2.2.1 (fun τ kr ca e13 _ => hp τ (h.ks kr.ks ca) e13)
def okRk (g : GS) (k : Int32) : Bool := decide (¬ k < 0 ∧ k < nI (gm g))
def rRanked (g : GS) (k : Int32) : Int32 := if okRk g k then nI (16 * (gord g (nn k) / 12) + gord g (nn k) % 12) else -2
theorem mRanked_ok {σ : Sto} {g : GS} {k : Int32} {Post : Int32 → Sto → Prop} (h : MI σ g) (hp : ∀ σ' : Sto, MI σ' g → Post (rRanked g k) σ') : X8_ranked_wp σ k Post := by
  have hm := gm_le g
  unfold X8_ranked_wp
  unfold rRanked at hp
  refine mRank h (fun τ hτ e13 => ?_)
  have hp := hp τ hτ
  refine ⟨fun c => ?_, fun c1 => ⟨fun c2 => ?_, fun c2 => ?_⟩⟩
  · rw [show okRk g k = false from decide_eq_false (fun z => z.1 c), if_neg (by decide)] at hp
    exact hp
  · rw [show okRk g k = true from decide_eq_true ⟨c1, c2⟩, if_pos rfl] at hp
    obtain ⟨j, hj, e⟩ := nI_of c1
    have en : nn k = j := by unfold nn; rw [e, nI_clamp hj]
    rw [en] at hp
    rw [e] at c2 ⊢
    have hlt : j < gm g := (nI_ltI hj (by omega)).mp c2
    have v1 : vp_in (nI j) 132 := vp_in_nI (by omega) (by decide)
    have b := (gord_lt hlt).1
    refine ⟨v1, v1, ?_⟩
    rw [nI_clamp (by omega), e13 j hlt, rem12 (by omega), div12 (by omega), show (16 : Int32) = nI 16 from rfl, pk_mul, nI_add]
    exact hp
  · rw [show okRk g k = false from decide_eq_false (fun z => c2 z.2), if_neg (by decide)] at hp
    exact hp
theorem rk_surj (key : Nat → Int) : ∀ n i, i < n → ∃ j, j < n ∧ rk key n j = i
  | 0, i, h => by omega
  | n + 1, i, h => by
    have hp := pos_le key (rk key n) n n
    by_cases e : i = n
    · refine ⟨pos key (rk key n) n n, by omega, ?_⟩
      show (if pos key (rk key n) n n < pos key (rk key n) n n then _ else if pos key (rk key n) n n = pos key (rk key n) n n then n else _) = i
      rw [if_neg (Nat.lt_irrefl _), if_pos rfl, e]
    · obtain ⟨j, hj, ej⟩ := rk_surj key n i (by omega)
      by_cases q : j < pos key (rk key n) n n
      · refine ⟨j, by omega, ?_⟩
        show (if j < pos key (rk key n) n n then rk key n j else _) = i
        rw [if_pos q]
        exact ej
      · refine ⟨j + 1, by omega, ?_⟩
        show (if j + 1 < pos key (rk key n) n n then _ else if j + 1 = pos key (rk key n) n n then _ else rk key n (j + 1 - 1)) = i
        rw [if_neg (by omega), if_neg (by omega), Nat.add_sub_cancel]
        exact ej
theorem gord_surj {g : GS} {p : Nat} (hp : p < 144) (hC : gC g p = true) : ∃ j, j < gm g ∧ gord g j = p := by
  have hlt : cnt p (gC g) < gm g := by
    have h1 := cnt_mono_n (gC g) (show p + 1 ≤ 144 by omega)
    rw [cnt_t hC] at h1
    unfold gm
    omega
  obtain ⟨j, hj, e⟩ := rk_surj (gkey g) (gm g) (cnt p (gC g)) hlt
  refine ⟨j, hj, ?_⟩
  unfold gord
  rw [e]
  exact nth_cnt hC 144 hp
/-- the pair that is meant shows what both places show -/
theorem lead_ori {g : GS} (h : GI (gN g) (gS g) (gc g) (gar g) (gpo g)) (hN : gN g ≤ 12) {x y : Nat} (hx : x < gN g) (hy : y < gN g) (ht : tld (gN g) (gS g) x y = true) : gC g (ori (gN g) (gS g) x y) = !lead (gar g) (ghid g) x y := by
  obtain ⟨o1, o2, -⟩ := ori_spec hN hx hy ht
  have hp := isPr_iff.mp o2
  have e : 12 * (ori (gN g) (gS g) x y / 12) + ori (gN g) (gS g) x y % 12 = ori (gN g) (gS g) x y := Nat.div_add_mod _ 12
  unfold gC isC
  rw [decide_eq_true hp.1, decide_eq_true hp.2.1, hp.2.2]
  unfold lead
  rw [e, ← h.at hN hx hy ht]
  simp
def rPlace (g : GS) (a b : Int32) : Int32 := if told (gN g) (gS g) a b then (if lead (gar g) (ghid g) (nn a) (nn b) then -3 else nI (stpA (fun j => decide (gord g j = ori (gN g) (gS g) (nn a) (nn b))) (gm g) 0)) else -1
theorem mPlace_ok {σ : Sto} {g : GS} {a b : Int32} {Post : Int32 → Sto → Prop} (h : MI σ g) (hp : ∀ σ' : Sto, MI σ' g → Post (rPlace g a b) σ') : X8_place_wp σ a b Post := by
  have hN := h.1.1.2.2.1
  have hm := gm_le g
  intro K hK
  unfold rPlace at hp
  refine isTold_ok h.1.1 (b2i_if _ (fun ht => ?_) (fun ht => ?_))
  · obtain ⟨x, y, hx, hy, ea, eb, hxy, na, nb⟩ := told_spec hN ht
    obtain ⟨o1, o2, o3, o4, o5⟩ := ori_spec hN hx hy hxy
    rw [ht, if_pos rfl, na, nb] at hp
    rw [ea, eb]
    refine isCandidate_ok h.1.1 (by omega) (by omega) (b2i_if _ (fun hc => ?_) (fun hc => ?_))
    · have hl : lead (gar g) (ghid g) x y = false := by simpa using hc
      rw [hl, if_neg (by decide)] at hp
      have hC := lead_ori (g := g) h.2.2.2.2.2.2.2 hN hx hy hxy
      rw [hc] at hC
      obtain ⟨j0, hj0, ej0⟩ := gord_surj o1 hC
      have run : ∀ τ : Sto, MI τ g → (∀ j, j < gm g → τ.1 13 j = nI (gord g j)) → K τ (nI (ori (gN g) (gS g) x y)) (nI (gm g)) 0 := by
        intro τ hτ e13
        have loop : ∀ f d, d + f = gm g → d ≤ j0 → stpA (fun j => decide (gord g j = ori (gN g) (gS g) x y)) f d = stpA (fun j => decide (gord g j = ori (gN g) (gS g) x y)) (gm g) 0 → K τ (nI (ori (gN g) (gS g) x y)) (nI (gm g)) (nI d) := by
          intro f
          induction f with
          | zero => intro d hd hd0 _; omega
          | succ f ih =>
            intro d hd hd0 hst
            apply hK
            unfold X8_place_b57
            rw [nI_clamp (by omega), e13 d (by omega), nI_eq (by have := (gord_lt (g := g) (j := d) (by omega)).1; omega) (by omega), nI_1]
            refine ⟨vp_in_nI (by omega) (by decide), fun he => ?_, fun he => ?_⟩
            · refine pk_le (gm g) d (fun z => by omega) (fun _ => ?_)
              have hst : (if decide (gord g d = ori (gN g) (gS g) x y) then d else stpA (fun j => decide (gord g j = ori (gN g) (gS g) x y)) f (d + 1)) = stpA (fun j => decide (gord g j = ori (gN g) (gS g) x y)) (gm g) 0 := hst
              rw [decide_eq_true he, if_pos rfl] at hst
              rw [show nI d = nI (stpA (fun j => decide (gord g j = ori (gN g) (gS g) x y)) (gm g) 0) by rw [← hst]]
              exact hp τ hτ
            · have hne : d ≠ j0 := fun q => he (by rw [q]; exact ej0)
              refine ih (d + 1) (by omega) (by omega) ?_
              rw [← hst]
              show _ = (if decide (gord g d = ori (gN g) (gS g) x y) then d else _)
              rw [decide_eq_false he, if_neg (by decide)]
        exact loop (gm g) 0 (by omega) (Nat.zero_le _) rfl
      refine isTurned_ok h.1.1 (by omega) (by omega) (b2i_fi _ (fun h1 => ?_) (fun h1 => ?_))
      · have eo : ori (gN g) (gS g) x y = 12 * y + x := by
          unfold ori
          rw [show isP (gN g) (gS g) x y = false by simpa using h1, if_neg (by decide)]
        refine mRank h (fun τ hτ e13 => ?_)
        rw [ix, ← eo]
        exact run τ hτ e13
      · have eo : ori (gN g) (gS g) x y = 12 * x + y := by
          unfold ori
          rw [show isP (gN g) (gS g) x y = true by simpa using h1, if_pos rfl]
        refine mRank h (fun τ hτ e13 => ?_)
        rw [ix, ← eo]
        exact run τ hτ e13
    · have hl : lead (gar g) (ghid g) x y = true := by simpa using hc
      rw [hl, if_pos rfl] at hp
      exact hp σ h
  · rw [ht, if_neg (by decide)] at hp
    exact hp σ h
def fnd (g : GS) (p : Nat) : Bool := decide (0 < gar g p) && ghid g (gar g p - 1)
def okAm (g : GS) (k : Int32) : Bool := decide (¬ k < 0 ∧ k ≤ nI (gm g))
def rAmong (g : GS) (k : Int32) : Int32 := if okAm g k then nI (cnt (nn k) (fun j => fnd g (gord g j))) else -2
theorem mAmong_ok {σ : Sto} {g : GS} {k : Int32} {Post : Int32 → Sto → Prop} (h : MI σ g) (hp : ∀ σ' : Sto, MI σ' g → Post (rAmong g k) σ') : X8_among_wp σ k Post := by
  have hm := gm_le g
  intro K hK
  unfold rAmong at hp
  refine mRank h (fun τ hτ e13 => ?_)
  have hp := hp τ hτ
  refine ⟨fun c => ?_, fun c1 => ⟨fun c2 => ?_, fun c2 => ?_⟩⟩
  · rw [show okAm g k = false from decide_eq_false (fun z => z.1 c), if_neg (by decide)] at hp
    exact hp
  · rw [show okAm g k = true from decide_eq_true ⟨c1, c2⟩, if_pos rfl] at hp
    obtain ⟨n, hn, e⟩ := nI_of c1
    have en : nn k = n := by unfold nn; rw [e, nI_clamp hn]
    rw [en] at hp
    rw [e] at c2
    have hle : n ≤ gm g := (nI_leI hn (by omega)).mp c2
    refine down (fun i => K τ (nI (cnt i (fun j => fnd g (gord g j)))) (nI i)) n ?_ (fun i hi ih => ?_)
    · apply hK
      unfold X8_among_b22
      rw [e]
      exact pk_le n n (fun _ => hp) (fun z => by omega)
    · apply hK
      unfold X8_among_b22
      rw [e]
      have b := (gord_lt (g := g) (j := i) (by omega)).1
      have v1 : vp_in (nI i) 132 := vp_in_nI (by omega) (by decide)
      refine pk_le n i (fun z => by omega) (fun z => ⟨v1, v1, ?_⟩)
      rw [nI_clamp (by omega), e13 i (by omega), rem12 (by omega), div12 (by omega)]
      have mp : gord g i % 12 < 12 := Nat.mod_lt _ (by decide)
      rw [← nI_1] at ih
      refine isFound_ok hτ.1.1 (by omega) mp ?_
      rw [Nat.div_add_mod]
      refine b2i_fi _ (fun hb => ?_) (fun hb => ?_)
      · rw [cnt_t hb, ← nI_1] at ih
        exact ih
      · rw [cnt_f hb] at ih
        rw [nI_p0]
        exact ih
  · rw [show okAm g k = false from decide_eq_false (fun z => c2 z.2), if_neg (by decide)] at hp
    exact hp
/-! share, sample -/
def gF (g : GS) : Nat → Bool := isF (gN g) (gS g) (gar g) (ghid g)
def gE (g : GS) : Nat → Bool := isE (gN g) (gS g) (gar g) (ghid g)
def nF (g : GS) : Nat := cnt 144 (gF g)
def nE (g : GS) : Nat := cnt 144 (gE g)
def gmv (g : GS) : Nat → Int := mvp (gP g) (gwt g)
def okSh (g : GS) : Bool := decide (0 < nF g ∧ 0 < nE g)
def gFr (g : GS) (a b : Nat) : GS := gBd g (lz (a / Nat.gcd a b : Nat)) (lz (b / Nat.gcd a b : Nat))
def gShare (g : GS) : GS := if okSh g then gFr g (shr (gF g) (gE g) (gmv g) (nF g)) (2 * nF g * nE g) else g
def rShare (g : GS) : Int32 := if okSh g then 1 else -3
theorem mShare_ok {σ : Sto} {g : GS} {Post : Int32 → Sto → Prop} (h : MI σ g) (hp : ∀ σ' : Sto, MI σ' (gShare g) → Post (rShare g) σ') : X8_share_wp σ Post := by
  unfold X8_share_wp
  unfold gShare rShare at hp
  refine shares_ok h.1 h.2.1 h.2.2.1 (fun q τ ks ca => ⟨fun z => absurd rfl z, fun _ => ?_⟩) (fun q1 q2 τ a b ea eb ks ca et ebt => ⟨fun _ => ?_, fun z => absurd z (by decide)⟩)
  · rw [show okSh g = false from decide_eq_false q, if_neg (by decide), if_neg (by decide)] at hp
    exact hp τ (h.ks ks ca)
  · rw [show okSh g = true from decide_eq_true ⟨q1, q2⟩, if_pos rfl, if_pos rfl] at hp
    refine show_ok h ks ca (fun υ hυ => hp υ ?_)
    rw [et, ebt, ea, eb] at hυ
    exact hυ
theorem nI_all (x : Int32) : x = nI x.toBitVec.toNat := by
  apply Int32.toBitVec_inj.mp
  unfold nI
  apply BitVec.eq_of_toNat_eq
  rw [show (Int32.ofNat x.toBitVec.toNat).toBitVec.toNat = x.toBitVec.toNat % 2 ^ 32 from rfl]
  exact (Nat.mod_eq_of_lt x.toBitVec.isLt).symm
def drN (seed : Int32) (k : Nat) : Nat := (zsq seed (k + 1)).toBitVec.toNat / 2 ^ 8
theorem drw_eq (seed : Int32) (k : Nat) : drw seed k = nI (drN seed k) := by
  unfold drw drN
  have hl := (zsq seed (k + 1)).toBitVec.isLt
  have := pk_ushrN (n := (zsq seed (k + 1)).toBitVec.toNat) hl (8 : Int32) 8 (by decide)
  rw [← nI_all] at this
  exact this
theorem drN_lt (seed : Int32) (k : Nat) : drN seed k < 2 ^ 24 := by
  unfold drN
  have hl := (zsq seed (k + 1)).toBitVec.isLt
  omega
def smpl (g : GS) (seed : Int32) (n : Nat) : Nat := smN n (fun i => win (gmv g (nth (gF g) 144 i)) (gmv g (nth (gE g) 144 (drN seed i % nE g))))
def gSample (g : GS) (seed : Int32) : GS := if okSh g then gFr g (smpl g seed (nF g)) (2 * nF g) else g
theorem mSample_ok {σ : Sto} {g : GS} {seed : Int32} {Post : Int32 → Sto → Prop} (h : MI σ g) (hp : ∀ σ' : Sto, MI σ' (gSample g seed) → Post (rShare g) σ') : X8_sample_wp σ seed Post := by
  have hPl : ∀ k a b, gP g k a b ≤ 1404 * SC := prt_le h.1.1.2.2.1 h.1.2.2.1.2.1 h.1.2.2.1.2.2.2.1
  have hw2 : ∀ k, k < 11 → -99 ≤ gwt g k ∧ gwt g k ≤ 99 := fun k hk => (h.2.2.1 k hk).2
  have hmv : ∀ q, (gmv g q).natAbs < 2 ^ 63 := fun q => mixv_lt hPl hw2 _ _
  have b1 : nF g ≤ 132 := isF_le (Nat.le_refl 144)
  have b2 : nE g ≤ 132 := isE_le (Nat.le_refl 144)
  intro K hK
  unfold gSample rShare at hp
  refine parted_ok h.1 h.2.1 h.2.2.1 (fun τ mp => ?_)
  obtain ⟨ks, ca, et, e28, e29, e16, e17⟩ := mp
  refine b2i_if _ (fun hb => ?_) (fun hb => ?_)
  · rw [Bool.and_eq_true, decide_eq_true_eq, decide_eq_true_eq] at hb
    have hF0 : 0 < nF g := hb.1
    have hE0 : 0 < nE g := hb.2
    rw [show okSh g = true from decide_eq_true hb, if_pos rfl, if_pos rfl] at hp
    have e28 : τ.1 0 28 = nI (nF g) := e28
    have e29 : τ.1 0 29 = nI (nE g) := e29
    have loop : ∀ j i, i + j = nF g → ∀ υ : Sto, (∀ j, j ≠ 18 → υ.1 0 j = τ.1 0 j) → (∀ k, k ≠ 0 → υ.1 k = τ.1 k) → υ.2 = τ.2 → υ.1 0 18 = zsq seed i → K υ (lz (smpl g seed i : Nat)) (nI i) := by
      intro j
      induction j with
      | zero =>
        intro i hi υ u0 u1 u2 uz
        have hi : i = nF g := hi
        subst hi
        have ku : Ks σ υ := ks.tr ⟨fun j h1 _ _ => u0 j h1, fun k h1 _ => u1 k (by omega), by rw [u2], by rw [u2], fun k h1 => u1 k (by omega)⟩
        have cu : MCa υ (gN g) (gS g) (gP g) := ca.cong (u1 10 (by decide)) (by rw [u2]) (by rw [u2])
        apply hK
        unfold X8_sample_b20
        rw [u0 28 (by decide), e28]
        refine pk_le (nF g) (nF g) (fun _ => ?_) (fun z => by omega)
        rw [nI_lz (by omega), lz_2, lz_mul, show (2 : Int) * ((nF g : Nat) : Int) = ((2 * nF g : Nat) : Int) by omega]
        have s1 : smpl g seed (nF g) ≤ nF g * 2 := smN_le (fun i _ => win_le _ _)
        refine makeG_ok (by omega) (by omega) (by omega) ?_
        refine show_ok h (ku.tr (Ks.tb _ _ _)) (cu.tbk _ _) (fun ω hω => hp ω ?_)
        rw [tb_t, tb_b] at hω
        exact hω
      | succ j ih =>
        intro i hi υ u0 u1 u2 uz
        apply hK
        unfold X8_sample_b20
        rw [u0 28 (by decide), e28]
        refine pk_le (nF g) i (fun z => by omega) (fun z => ⟨vp_in_nI (by omega) (by decide), ?_⟩)
        unfold X8_draw_wp
        rw [uz]
        have u29 : (sI υ 0 18 (zsq seed (i + 1))).1 0 29 = nI (nE g) := by rw [sI_n _ _ _ (by decide), u0 29 (by decide)]; exact e29
        show ¬ (sI υ 0 18 (zsq seed (i + 1))).1 0 29 = 0 ∧ vp_in (drw seed i - drw seed i / (sI υ 0 18 (zsq seed (i + 1))).1 0 29 * (sI υ 0 18 (zsq seed (i + 1))).1 0 29) 132 ∧ X8_wins_wp (sI υ 0 18 (zsq seed (i + 1))) (υ.1 16 (nI i).toNatClampNeg) ((sI υ 0 18 (zsq seed (i + 1))).1 17 (drw seed i - drw seed i / (sI υ 0 18 (zsq seed (i + 1))).1 0 29 * (sI υ 0 18 (zsq seed (i + 1))).1 0 29).toNatClampNeg) (fun r4 σ4 => K σ4 (lz (smpl g seed i : Nat) + r4) (nI i + 1))
        have hd := drN_lt seed i
        have hmod : drN seed i % nE g < nE g := Nat.mod_lt _ hE0
        rw [u29, drw_eq, pk_rem (by omega) hE0 (by omega), nI_clamp (by omega), nI_clamp (by omega), sI_o _ _ _ (by decide), u1 16 (by decide), u1 17 (by decide)]
        have hiF : i < nF g := by omega
        rw [e16 i hiF, e17 _ hmod]
        refine ⟨nI_ne0 hE0 (by omega), vp_in_nI (by omega) (by decide), ?_⟩
        have nf := nthF hiF
        have ne := nthE hmod
        have t1 := et _ nf.1 nf.2
        have t2 := et _ ne.1 ne.2
        rw [← u2] at t1 t2
        refine wins_ok nf.1 ne.1 t1.1 t1.2 t2.1 t2.2 (hmv _) (hmv _) ?_
        rw [lz_add, nI_1, ← Int.natCast_add]
        exact ih (i + 1) (by omega) _ (fun j hj => by rw [sI_n _ _ _ hj]; exact u0 j hj) (fun k hk => by rw [sI_o _ _ _ hk]; exact u1 k hk) u2 (sI_e _ _ _ _)
    have := loop (nF g) 0 (by omega) (sI τ 0 18 seed) (fun j hj => by rw [sI_n _ _ _ hj]) (fun k hk => by rw [sI_o _ _ _ hk]) rfl (sI_e _ _ _ _)
    exact this
  · have q : ¬ (0 < nF g ∧ 0 < nE g) := fun z => by
      rw [decide_eq_true (show 0 < cnt 144 (isF (gN g) (gS g) (gar g) (ghid g)) from z.1), decide_eq_true (show 0 < cnt 144 (isE (gN g) (gS g) (gar g) (ghid g)) from z.2)] at hb
      cases hb
    rw [show okSh g = false from decide_eq_false q, if_neg (by decide), if_neg (by decide)] at hp
    exact hp τ (h.ks ks ca)
