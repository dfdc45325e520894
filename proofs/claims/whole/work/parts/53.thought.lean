/-! years in thought -/
def yrs (τ : Int32 → Int32 → List Int32) (g : Nat → Nat → Int32) : Nat → Nat → Nat → Int32
  | 0 => g
  | k + 1 => p_yr τ (-1) (yrs τ g k)
theorem yrs_o (τ : Int32 → Int32 → List Int32) (g : Nat → Nat → Int32) {j : Nat} (h : j ≠ 10) : ∀ k, yrs τ g k 0 j = g 0 j
  | 0 => rfl
  | k + 1 => (yr_o τ (-1) (yrs τ g k) h).trans (yrs_o τ g h k)
theorem gok_yrs {τ : Int32 → Int32 → List Int32} {g : Nat → Nat → Int32} (hg : gok g) : ∀ k, gok (yrs τ g k)
  | 0 => hg
  | k + 1 => gok_yr (gok_yrs hg k)
section THOUGHT
variable {T : Nat} {τ : Int32 → Int32 → List Int32} {g0 : Nat → Nat → Int32} {S0 S : ri_H}
/-- the class, in thought -/
def tw (τ : Int32 → Int32 → List Int32) (g0 : Nat → Nat → Int32) (S0 S : ri_H) (k : Nat) : Prop := ag CX S0 S ∧ gw S 19 = yrs τ g0 k
theorem tc_ag2 (h : rT T τ S0) (a : ag CX S0 S) {r : Nat} (hr : r < T) : tc S τ (nI r) := tc_ag a (by decide) (by decide) (tc_of h hr)
theorem w39_t {Q : ri_H → Prop} {k : Nat} (h : rT T τ S0) (hg : gwd T g0) (ht : tw τ g0 S0 S k) (hQ : ∀ S', tw τ g0 S0 S' (k + 1) → Q S') : w39 19 (-1) S Q := by
  obtain ⟨⟨⟨L, hL, eL⟩, _⟩, _, r, hr, er⟩ := hg
  obtain ⟨a, e⟩ := ht
  have e9 : gw S 19 0 9 = nI L := by rw [e, yrs_o _ _ (by decide)]; exact eL
  have e11 : gw S 19 0 11 = nI r := by rw [e, yrs_o _ _ (by decide)]; exact er
  refine w39_ok (Or.inr rfl) e9 (by omega) (by rw [e11]; exact tc_ag2 h a hr) (fun S' a' e' => hQ S' ⟨ag_tr a (ag_mo a' (by decide)), ?_⟩)
  rw [e', e]
  rfl
theorem w33_t {Q : ri_H → Prop} (hQ : ∀ S', ag CX S S' → gw S' 19 = gw S 10 → Q S') : w33 19 10 S Q :=
  w33_ok (Or.inr (Or.inl ⟨rfl, rfl⟩)) (fun S' a e => hQ S' (ag_mo a (by decide)) e)
/-! the model: laid aside, laid back -/
def asd (S0 S : ri_H) : Prop := (∀ j, j < 24 → S.1 57 j = S0.1 55 j) ∧ (∀ j, j < 25 → S.1 57 (24 + j) = S0.1 56 j) ∧ S.1 57 49 = S0.1 50 7
theorem c49 : (49 : Int32).toNatClampNeg = 49 := by decide
theorem w174_l28_ok {Q : ri_H → Prop} (hQ : ∀ S', am [57] [] S0 S' → asd S0 S' → Q S') : ∀ d k S, k + d = 25 → am [57] [] S0 S → (∀ j, j < 24 → S.1 57 j = S0.1 55 j) → (∀ j, j < k → S.1 57 (24 + j) = S0.1 56 j) → w174_l28 Q (d + 1) (nI k) S
  | 0, k, S, hk, ha, h1, h2 => by
    have hk' : k = 25 := hk
    subst hk'
    unfold w174_l28
    rw [c49]
    refine ⟨fun _ => ⟨vin_c rfl, hQ _ (am_wi ha (by decide) (by decide)) ⟨fun j hj => ?_, fun j hj => ?_, ?_⟩⟩, fun c => absurd (show (25 : Int32) ≤ nI 25 by decide) c⟩
    · rw [ri_wi_1, pk_un (by omega)]
      exact h1 j hj
    · rw [ri_wi_1, pk_un (by omega)]
      exact h2 j hj
    · rw [ri_wi_1, pk_us, (ha.2 7 (by decide)).1]
  | d + 1, k, S, hk, ha, h1, h2 => by
    unfold w174_l28
    rw [show (24 : Int32) + nI k = nI (24 + k) from nI_add 24 k, nI_clamp (n := 24 + k) (by omega), nI_clamp (n := k) (by omega), nI_1]
    refine ⟨fun c => absurd c (nI_ge (b := 25) (by omega) (by decide)), fun _ => ⟨vp_in_nI (by omega) (by decide), vp_in_nI (by omega) (by decide), ?_⟩⟩
    refine w174_l28_ok hQ d (k + 1) _ (by omega) (am_wi ha (by decide) (by decide)) (fun j hj => ?_) (fun j hj => ?_)
    · rw [ri_wi_1, pk_un (by omega)]
      exact h1 j hj
    · rw [ri_wi_1]
      by_cases e : j = k
      · subst e
        rw [pk_us, (ha.1 56 (by decide) (by decide)).1]
      · rw [pk_un (by omega)]
        exact h2 j (by omega)
theorem w174_l2_ok {Q : ri_H → Prop} (hQ : ∀ S', am [57] [] S0 S' → asd S0 S' → Q S') : ∀ d k S, k + d = 24 → am [57] [] S0 S → (∀ j, j < k → S.1 57 j = S0.1 55 j) → w174_l2 Q (d + 1) (nI k) S
  | 0, k, S, hk, ha, h1 => by
    have hk' : k = 24 := hk
    subst hk'
    unfold w174_l2
    exact ⟨fun _ => ⟨26, w174_l28_ok hQ 25 0 S rfl ha h1 (fun j hj => absurd hj (Nat.not_lt_zero j))⟩, fun c => absurd (show (24 : Int32) ≤ nI 24 by decide) c⟩
  | d + 1, k, S, hk, ha, h1 => by
    unfold w174_l2
    rw [nI_clamp (n := k) (by omega), nI_1]
    refine ⟨fun c => absurd c (nI_ge (b := 24) (by omega) (by decide)), fun _ => ⟨vp_in_nI (by omega) (by decide), vp_in_nI (by omega) (by decide), ?_⟩⟩
    refine w174_l2_ok hQ d (k + 1) _ (by omega) (am_wi ha (by decide) (by decide)) (fun j hj => ?_)
    rw [ri_wi_1]
    by_cases e : j = k
    · subst e
      rw [pk_us, (ha.1 55 (by decide) (by decide)).1]
    · rw [pk_un e]
      exact h1 j (by omega)
theorem w174_ok {Q : ri_H → Prop} (hQ : ∀ S', am [57] [] S0 S' → asd S0 S' → Q S') : w174 S0 Q :=
  ⟨25, w174_l2_ok hQ 24 0 S0 rfl (am_refl _ _ _) (fun j hj => absurd hj (Nat.not_lt_zero j))⟩
theorem w175_l28_ok {Q : ri_H → Prop} (hQ : ∀ S', am [55, 56] [7] S0 S' → (∀ j, j < 24 → S'.1 55 j = S0.1 57 j) → (∀ j, j < 25 → S'.1 56 j = S0.1 57 (24 + j)) → S'.1 50 7 = S0.1 57 49 → Q S') : ∀ d k S, k + d = 25 → am [55, 56] [7] S0 S → (∀ j, j < 24 → S.1 55 j = S0.1 57 j) → (∀ j, j < k → S.1 56 j = S0.1 57 (24 + j)) → w175_l28 Q (d + 1) (nI k) S
  | 0, k, S, hk, ha, h1, h2 => by
    have hk' : k = 25 := hk
    subst hk'
    unfold w175_l28
    rw [c49]
    refine ⟨fun _ => ⟨vin_c rfl, hQ _ (am_f ha (by decide)) (fun j hj => ?_) (fun j hj => ?_) ?_⟩, fun c => absurd (show (25 : Int32) ≤ nI 25 by decide) c⟩
    · rw [ri_wi_o _ _ _ (by decide)]
      exact h1 j hj
    · rw [ri_wi_o _ _ _ (by decide)]
      exact h2 j hj
    · rw [ri_wi_1, pk_us, (ha.1 57 (by decide) (by decide)).1]
  | d + 1, k, S, hk, ha, h1, h2 => by
    unfold w175_l28
    rw [show (24 : Int32) + nI k = nI (24 + k) from nI_add 24 k, nI_clamp (n := 24 + k) (by omega), nI_clamp (n := k) (by omega), nI_1]
    refine ⟨fun c => absurd c (nI_ge (b := 25) (by omega) (by decide)), fun _ => ⟨vp_in_nI (by omega) (by decide), vp_in_nI (by omega) (by decide), ?_⟩⟩
    refine w175_l28_ok hQ d (k + 1) _ (by omega) (am_wi ha (by decide) (by decide)) (fun j hj => ?_) (fun j hj => ?_)
    · rw [ri_wi_o _ _ _ (by decide)]
      exact h1 j hj
    · rw [ri_wi_1]
      by_cases e : j = k
      · subst e
        rw [pk_us, (ha.1 57 (by decide) (by decide)).1]
      · rw [pk_un e]
        exact h2 j (by omega)
theorem w175_l2_ok {Q : ri_H → Prop} (hQ : ∀ S', am [55, 56] [7] S0 S' → (∀ j, j < 24 → S'.1 55 j = S0.1 57 j) → (∀ j, j < 25 → S'.1 56 j = S0.1 57 (24 + j)) → S'.1 50 7 = S0.1 57 49 → Q S') : ∀ d k S, k + d = 24 → am [55, 56] [7] S0 S → (∀ j, j < k → S.1 55 j = S0.1 57 j) → w175_l2 Q (d + 1) (nI k) S
  | 0, k, S, hk, ha, h1 => by
    have hk' : k = 24 := hk
    subst hk'
    unfold w175_l2
    exact ⟨fun _ => ⟨26, w175_l28_ok hQ 25 0 S rfl ha h1 (fun j hj => absurd hj (Nat.not_lt_zero j))⟩, fun c => absurd (show (24 : Int32) ≤ nI 24 by decide) c⟩
  | d + 1, k, S, hk, ha, h1 => by
    unfold w175_l2
    rw [nI_clamp (n := k) (by omega), nI_1]
    refine ⟨fun c => absurd c (nI_ge (b := 24) (by omega) (by decide)), fun _ => ⟨vp_in_nI (by omega) (by decide), vp_in_nI (by omega) (by decide), ?_⟩⟩
    refine w175_l2_ok hQ d (k + 1) _ (by omega) (am_wi ha (by decide) (by decide)) (fun j hj => ?_)
    rw [ri_wi_1]
    by_cases e : j = k
    · subst e
      rw [pk_us, (ha.1 57 (by decide) (by decide)).1]
    · rw [pk_un e]
      exact h1 j (by omega)
theorem w175_ok {Q : ri_H → Prop} (hQ : ∀ S', am [55, 56] [7] S0 S' → (∀ j, j < 24 → S'.1 55 j = S0.1 57 j) → (∀ j, j < 25 → S'.1 56 j = S0.1 57 (24 + j)) → S'.1 50 7 = S0.1 57 49 → Q S') : w175 S0 Q :=
  ⟨25, w175_l2_ok hQ 24 0 S0 rfl (am_refl _ _ _) (fun j hj => absurd hj (Nat.not_lt_zero j))⟩
/-- rows that are like as far as they count -/
theorem gm_like {S S' : ri_H} (h54 : S'.1 54 = S.1 54) (h55 : ∀ j, j < 24 → S'.1 55 j = S.1 55 j) (h56 : ∀ j, j < 25 → S'.1 56 j = S.1 56 j) (h4 : S'.1 50 4 = S.1 50 4) (h7 : S'.1 50 7 = S.1 50 7) (h11 : S'.1 50 11 = S.1 50 11) : gm S' = gm S := by
  have n55 : nz 24 (S'.1 55) = nz 24 (S.1 55) := by
    funext j
    unfold nz
    by_cases c : j < 24
    · rw [if_pos c, if_pos c, h55 j c]
    · rw [if_neg c, if_neg c]
  have n56 : ∀ i, i < 5 → nz 5 (fun p => S'.1 56 (5 * p + i)) = nz 5 (fun p => S.1 56 (5 * p + i)) := by
    intro i hi
    funext p
    unfold nz
    by_cases c : p < 5
    · rw [if_pos c, if_pos c]
      exact h56 (5 * p + i) (by omega)
    · rw [if_neg c, if_neg c]
  unfold gm
  rw [h54, h4, h7, h11, n55]
  have a0 := n56 0 (by decide)
  have a1 := n56 1 (by decide)
  have a2 := n56 2 (by decide)
  have a3 := n56 3 (by decide)
  have a4 := n56 4 (by decide)
  simp only [Nat.add_zero] at a0
  rw [a0, a1, a2, a3, a4]
def MY : List Nat := [55, 56, 57]
/-- the model, in thought -/
def mw (τ : Int32 → Int32 → List Int32) (S0 S : ri_H) (k : Nat) : Prop := am MY (7 :: F1) S0 S ∧ asd S0 S ∧ gm S = yrs τ (gm S0) k
theorem w174_m {Q : ri_H → Prop} (hQ : ∀ S', mw τ S0 S' 0 → Q S') : w174 S0 Q :=
  w174_ok (fun S' a h => hQ S' ⟨am_mo a (by decide) (by decide), h, gm_am a (by decide) (by decide) (by decide) (by decide) (by decide) (by decide)⟩)
theorem mw_mt (hm : mt S0 τ (gm S0 0 11)) {k : Nat} (h : mw τ S0 S k) : mt S τ (gm S 0 11) := by
  rw [h.2.2, yrs_o _ _ (by decide)]
  exact mt_am hm h.1 (by decide) (by decide)
theorem w171_m {Q : ri_H → Prop} {k : Nat} (hm : mt S0 τ (gm S0 0 11)) (hg : gok (gm S0)) (h : mw τ S0 S k) (hQ : ∀ S', mw τ S0 S' (k + 1) → Q S') : w171 S Q := by
  refine w171_ok (by rw [h.2.2]; exact gok_yrs hg k) (mw_mt hm h) (fun S' a e => hQ S' ⟨am_tr h.1 (am_mo a (by decide) (by decide)), ?_, ?_⟩)
  · obtain ⟨h1, h2, h3⟩ := h.2.1
    unfold asd
    rw [(a.1 57 (by decide) (by decide)).1]
    exact ⟨h1, h2, h3⟩
  · rw [e, h.2.2]
    rfl
theorem back_gm {S1 : ri_H} (ha : am MY (7 :: F1) S0 S) (hs : asd S0 S) (a : am [55, 56] [7] S S1) (h1 : ∀ j, j < 24 → S1.1 55 j = S.1 57 j) (h2 : ∀ j, j < 25 → S1.1 56 j = S.1 57 (24 + j)) (h3 : S1.1 50 7 = S.1 57 49) : am MX MF S0 S1 ∧ gm S1 = gm S0 := by
  obtain ⟨s1, s2, s3⟩ := hs
  refine ⟨am_tr (am_mo ha (by decide) (by decide)) (am_mo a (by decide) (by decide)), gm_like ?_ (fun j hj => (h1 j hj).trans (s1 j hj)) (fun j hj => (h2 j hj).trans (s2 j hj)) ?_ (h3.trans s3) ?_⟩
  · rw [(a.1 54 (by decide) (by decide)).1, (ha.1 54 (by decide) (by decide)).1]
  · rw [(a.2 4 (by decide)).1, (ha.2 4 (by decide)).1]
  · rw [(a.2 11 (by decide)).1, (ha.2 11 (by decide)).1]
theorem w175_m {Q : ri_H → Prop} (ha : am MY (7 :: F1) S0 S) (hs : asd S0 S) (hQ : ∀ S', am [55, 56] [7] S S' → am MX MF S0 S' → gm S' = gm S0 → Q S') : w175 S Q :=
  w175_ok (fun S' a h1 h2 h3 => hQ S' a (back_gm ha hs a h1 h2 h3).1 (back_gm ha hs a h1 h2 h3).2)
theorem w114_m {Q : Int32 → ri_H → Prop} {p k : Nat} (hp : p < 5) (h : mw τ S0 S k) (hQ : Q (it (yrs τ (gm S0) k 5) 5 (nI p)) S) : w114 (nI p) S Q := by
  refine w114_ok hp ?_
  rw [h.2.2, ← it_nI (yrs τ (gm S0) k 5) hp (by decide)]
  exact hQ
theorem at_bt {g : Nat → Nat → Int32} (hg : gok g) {p : Nat} (hp : p < 5) : (1 : Int32) <<< (it (g 5) 5 (nI p) &&& 31) = bt (it (g 5) 5 (nI p)) := by
  obtain ⟨c, hc, e⟩ := hg.2.2.2.2.2.1 p hp
  rw [it_nI _ hp (by decide), e]
  exact sh1_bt (by omega)
end THOUGHT
/-! run -/
def p_seen (τ : Int32 → Int32 → List Int32) (g : Nat → Nat → Int32) (one : Int32) : Nat → Int32
  | 0 => bt (it (g 5) 5 one)
  | k + 1 => p_seen τ g one k ||| bt (it (yrs τ g (k + 1) 5) 5 one)
section RUN
variable {a b g : Int32} {S : ri_H} {T : Nat} {τ : Int32 → Int32 → List Int32}
def p_run (τ : Int32 → Int32 → List Int32) (g : Nat → Nat → Int32) (one : Int32) (n : Nat) (what : Int32) : Int32 :=
  if what = 0 then it (yrs τ g n 5) 5 one else if what = 1 then p_seen τ g one n else if what = 2 then p_all (yrs τ g n) else it (yrs τ g n 2) 24 (what - 10)
theorem l86_ok {Q : Int32 → ri_H → Prop} {g0 : Nat → Nat → Int32} {S0 : ri_H} {n : Nat} {one what : Int32} (hn : n ≤ 60) (h : rT T τ S0) (hg : gwd T g0) (hQ : ∀ S', ag CX S0 S' → Q (p_run τ g0 one n what) S') : ∀ d k S, k + d = n → tw τ g0 S0 S k → w56_l86 Q (d + 1) one (nI n) what (p_seen τ g0 one k) (nI k) S
  | 0, k, S, hk, ht => by
    have hk' : k = n := hk
    subst hk'
    unfold w56_l86
    have hq := hQ S ht.1
    unfold p_run at hq
    rw [gw_it S 19 2 24 rfl (by decide), gw_it S 19 5 5 rfl (by decide), ht.2]
    refine ⟨fun _ => ⟨fun c => ?_, fun c => ?_, fun c => ?_, fun c => w37_ok ?_⟩, fun c => absurd (nI_le (Nat.le_refl _) (by omega)) c⟩
    · rw [if_neg (fun e => not_out e (by decide) c), if_neg (fun e => not_out e (by decide) c), if_neg (fun e => not_out e (by decide) c)] at hq
      exact hq
    · rw [if_pos c] at hq
      exact hq
    · rw [c, if_neg (by decide), if_pos rfl] at hq
      exact hq
    · rw [c, if_neg (by decide), if_neg (by decide), if_pos rfl] at hq
      rw [ht.2]
      exact hq
  | d + 1, k, S, hk, ht => by
    unfold w56_l86
    rw [nI_1]
    refine ⟨fun c => absurd c (nI_ge (by omega) (by omega)), fun _ => w39_t h hg ht (fun S' ht' => ?_)⟩
    rw [gw_it S' 19 5 5 rfl (by decide), ht'.2]
    exact l86_ok hn h hg hQ d (k + 1) S' (by omega) ht'
theorem l65_ok {Q : Int32 → ri_H → Prop} {S0 : ri_H} {n p w : Nat} (hn : n ≤ 60) (hp : p < 5) (hm : mt S0 τ (gm S0 0 11)) (hg : gok (gm S0)) (hw : w < 34 ∧ (w < 3 ∨ 10 ≤ w)) (hQ : ∀ S', am MX MF S0 S' → gm S' = gm S0 → Q (p_run τ (gm S0) (nI p) n (nI w)) S') : ∀ d k S, k + d = n → mw τ S0 S k → w176_l65 Q (d + 1) (nI p) (nI n) (nI w) (p_seen τ (gm S0) (nI p) k) (nI k) S
  | 0, k, S, hk, ht => by
    have hk' : k = n := hk
    subst hk'
    unfold w176_l65 w176_b136
    have fin : ∀ S1, S1 = S → ∀ v, v = p_run τ (gm S0) (nI p) k (nI w) → w175 S1 (fun S10 => Q v S10) := by
      intro S1 e v ev
      subst e
      subst ev
      exact w175_m ht.1 ht.2.1 (fun S' _ a e => hQ S' a e)
    unfold p_run at fin
    refine ⟨fun _ => ⟨fun c0 => ⟨fun c1 => ⟨fun c2 => ?_, fun c2 => ?_⟩, fun c1 => ?_⟩, fun c0 => ?_⟩, fun c => absurd (nI_le (Nat.le_refl _) (by omega)) c⟩
    · have h10 : 10 ≤ w := by
        rcases hw.2 with q | q
        · rcases (show w = 0 ∨ w = 1 ∨ w = 2 by omega) with e | e | e
          · subst e; exact absurd rfl c0
          · subst e; exact absurd rfl c1
          · subst e; exact absurd rfl c2
        · exact q
      have e10 : nI w - 10 = nI (w - 10) := pk_sub (b := 10) h10
      rw [e10, nI_clamp (by omega), gm_2 (by omega), ht.2.2]
      refine ⟨vp_in_nI (by omega) (by decide), fin _ rfl _ ?_⟩
      rw [if_neg c0, if_neg c1, if_neg c2, e10, it_nI _ (by omega) (by decide)]
    · refine w169_ok (fin _ rfl _ ?_)
      rw [if_neg c0, if_neg c1, if_pos (Decidable.not_not.mp c2), ht.2.2]
    · refine fin _ rfl _ ?_
      rw [if_neg c0, if_pos (Decidable.not_not.mp c1)]
    · refine w114_m hp ht (fin _ rfl _ ?_)
      rw [if_pos (Decidable.not_not.mp c0)]
  | d + 1, k, S, hk, ht => by
    unfold w176_l65
    rw [nI_1]
    refine ⟨fun c => absurd c (nI_ge (by omega) (by omega)), fun _ => w171_m hm hg ht (fun S' ht' => w114_m hp ht' ?_)⟩
    rw [at_bt (gok_yrs hg (k + 1)) hp]
    exact l65_ok hn hp hm hg hw hQ d (k + 1) S' (by omega) ht'
theorem f_run {Q : Int32 → Int32 → ri_H → Prop} (h : RR S) (hQ : ∀ r S', RR S' → Q r r S') : w56 a b g S (fun r S1 => w176 a b g S1 (fun r2 S2 => Q r r2 S2)) := by
  have h0 := h
  obtain ⟨T, τ, h⟩ := h
  obtain ⟨L, hL, l1, l2, l3⟩ := R_L h
  -- the class, as to its words
  have cls : ∀ (K : Int32 → ri_H → Prop), (∀ p n w, p < L → n ≤ 60 → w < 34 → (w < 3 ∨ 10 ≤ w) → a = nI p → b = nI n → g = nI w → w56_b56 K a b g S) → ((∀ p, p < L → a ≠ nI p) ∨ (∀ n, n < 61 → b ≠ nI n) ∨ (∀ w, w < 34 → (w < 3 ∨ 10 ≤ w) → g ≠ nI w) → K (-2) S) → w56 a b g S K := by
    intro K k1 k2
    have b17 : ∀ s0 : Int32, (s0 = 0 ∨ s0 = 1) → (s0 = 0 → ∀ w, w < 34 → 10 ≤ w → g ≠ nI w) → (s0 = 1 → ∃ w, w < 34 ∧ 10 ≤ w ∧ g = nI w) → w56_b17 K a b g s0 S := by
      intro s0 hs z0 z1
      unfold w56_b17
      rw [l1]
      rcases wi_d a (n := L) (by omega) with ⟨p, hp, ep, hw⟩ | ⟨hw, hne⟩
      · rw [hw]
        refine ⟨fun c => absurd c (by decide), fun _ => ⟨fun c => k2 (Or.inr (Or.inl (fun n hn e => nI_pos (n := n) (by omega) (by rw [← e]; exact c)))), fun c => ⟨fun c2 => k2 (Or.inr (Or.inl (fun n hn e => ?_))), fun c2 => ?_⟩⟩⟩
        · rw [e] at c2
          have := (nI_ltI (a := 60) (b := n) (by decide) (by omega)).mp c2
          omega
        · obtain ⟨n, hn, en⟩ := nI_of2 (x := b) (M := 60) (n := 60) rfl c (Int32.not_lt.mp c2)
          refine ⟨fun c3 => ?_, fun c3 => ?_⟩
          · rcases hs with e | e
            · exact absurd e c3
            · obtain ⟨w, hw1, hw2, ew⟩ := z1 e
              exact k1 p n w hp hn hw1 (Or.inr hw2) ep en ew
          · have e := Decidable.not_not.mp c3
            rcases wi_d g (n := 3) (by decide) with ⟨w, hw3, ew, hw4⟩ | ⟨hw4, hne4⟩
            · have hw4 : wi g 3 = 1 := hw4
              rw [hw4]
              exact ⟨fun _ => k1 p n w hp hn (by omega) (Or.inl hw3) ep en ew, fun c => absurd (by decide) c⟩
            · have hw4 : wi g 3 = 0 := hw4
              rw [hw4]
              refine ⟨fun c => absurd rfl c, fun _ => k2 (Or.inr (Or.inr (fun w hw5 hw6 => ?_)))⟩
              rcases hw6 with q | q
              · exact hne4 w q
              · exact z0 e w hw5 q
      · rw [hw]
        exact ⟨fun _ => k2 (Or.inl hne), fun c => absurd rfl c⟩
    unfold w56 w56_b16
    refine ⟨fun c => b17 0 (Or.inl rfl) (fun _ w _ h10 e => ?_) (fun e => absurd e (by decide)), fun c => ⟨fun c2 => b17 0 (Or.inl rfl) (fun _ w hw _ e => ?_) (fun e => absurd e (by decide)), fun c2 => b17 1 (Or.inr rfl) (fun e => absurd e (by decide)) (fun _ => ?_)⟩⟩
    · rw [e] at c
      have := (nI_ltI (b := 10) (by omega) (by decide)).mp c
      omega
    · rw [e] at c2
      have := (nI_leI (a := 34) (by decide) (by omega)).mp c2
      omega
    · rcases pk_ix g (n := 34) (by decide) with q | q | ⟨j, hj, e⟩
      · exact absurd (Int32.lt_trans q (by decide)) c
      · exact absurd q c2
      · refine ⟨j, hj, ?_, e⟩
        rcases Nat.lt_or_ge j 10 with k | k
        · rw [e] at c
          exact absurd (nI_lt k (by decide)) c
        · exact k
  refine cls _ (fun p n w hp hn hw1 hw2 ea eb eg => ?_) (fun hbad => ?_)
  · subst ea
    subst eb
    subst eg
    unfold w56_b56
    refine w33_t (fun S1 a1 e1 => ⟨n + 1, ?_⟩)
    rw [gw_it S1 19 5 5 rfl (by decide), e1]
    have t0 : tw τ (gw S 10) S S1 0 := ⟨a1, e1⟩
    refine l86_ok hn h.2.1 (by rw [R_w h]; exact h.1.2) (fun S2 a2 => ?_) n 0 S1 (by omega) t0
    have h2 := R_c h a2
    have g2 := c_gm a2
    show w176 (nI p) (nI n) (nI w) S2 (fun r2 S3 => Q (p_run τ (gw S 10) (nI p) n (nI w)) r2 S3)
    have l2' : S2.1 50 11 = nI L := by rw [gm_9, g2]; exact l3
    have b49 : w176_b49 (fun r2 S3 => Q (p_run τ (gw S 10) (nI p) n (nI w)) r2 S3) (nI p) (nI n) (nI w) S2 := by
      unfold w176_b49
      refine w174_m (τ := τ) (fun S3 m3 => w114_m (by omega) m3 ⟨n + 1, ?_⟩)
      rw [at_bt (gok_yrs (R_ok h2) 0) (by omega)]
      refine l65_ok hn (by omega) (R_mt h2) (R_ok h2) ⟨hw1, hw2⟩ (fun S4 a4 e4 => ?_) n 0 S3 (by omega) m3
      rw [g2, ← R_w h]
      exact hQ _ _ ⟨T, τ, R_q h2 (ag_refl _ _) a4 e4⟩
    unfold w176
    refine w104_ok hL l2' (fun _ _ _ => ⟨fun c => absurd c (by decide), fun _ => w102_n (m := 60) (by decide) (by decide) (fun _ _ _ => ⟨fun c => absurd c (by decide), fun _ => w102_n (m := 2) (by decide) (by decide) (fun _ _ _ => ⟨fun _ => b49, fun c => absurd (by decide) c⟩) (fun hh => ⟨fun c => absurd rfl c, fun _ => ?_⟩)⟩) (fun hh => absurd rfl (hh n (by omega)))⟩) (fun hh => absurd rfl (hh p hp))
    have h10 : 10 ≤ w := by
      rcases hw2 with q | q
      · exact absurd rfl (hh w q)
      · exact q
    exact w102_g (nI 10) (nI 33) (fun _ _ => ⟨fun _ => b49, fun c => absurd (by decide) c⟩) (fun hh => absurd ⟨nI_le h10 (by omega), nI_le (by omega) (by decide)⟩ hh)
  · show w176 a b g S (fun r2 S3 => Q (-2) r2 S3)
    unfold w176
    refine w104_ok hL l2 (fun p hp ep => ⟨fun c => absurd c (by decide), fun _ => w102_n (m := 60) (by decide) (by decide) (fun n hn en => ⟨fun c => absurd c (by decide), fun _ => w102_n (m := 2) (by decide) (by decide) (fun w hw ew => ?_) (fun hne => ⟨fun c => absurd rfl c, fun _ => w102_g (nI 10) (nI 33) (fun q1 q2 => ?_) (fun _ => ⟨fun c => absurd rfl c, fun _ => hQ _ _ h0⟩)⟩)⟩) (fun _ => ⟨fun _ => hQ _ _ h0, fun c => absurd rfl c⟩)⟩) (fun _ => ⟨fun _ => hQ _ _ h0, fun c => absurd rfl c⟩)
    · rcases hbad with q | q | q
      · exact absurd ep (q p hp)
      · exact absurd en (q n hn)
      · exact absurd ew (q w (by omega) (Or.inl hw))
    · rcases hbad with q | q | q
      · exact absurd ep (q p hp)
      · exact absurd en (q n hn)
      · obtain ⟨w, hw, ew⟩ := nI_of2 (x := g) (M := nI 33) (n := 33) rfl (fun c => absurd (Int32.le_trans q1 (Int32.le_of_lt c)) (by decide)) q2
        refine absurd ew (q w (by omega) (Or.inr ?_))
        rw [ew] at q1
        exact (nI_leI (a := 10) (by decide) (by omega)).mp q1
end RUN
