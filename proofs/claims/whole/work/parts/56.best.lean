/-! best -/
def p_sp (τ : Int32 → Int32 → List Int32) (g : Nat → Nat → Int32) (one : Int32) : Nat → Int32 × Int32
  | 0 => (-1, 0)
  | k + 1 => if it (g 2) 24 (nI k) ≤ 0 then p_sp τ g one k else if (p_sp τ g one k).1 = -1 then (nI k, p_fl τ g one (nI k)) else if p_fl τ g one (nI k) ≤ (p_sp τ g one k).2 then p_sp τ g one k else (nI k, p_fl τ g one (nI k))
theorem p_sp_inv (τ : Int32 → Int32 → List Int32) (g : Nat → Nat → Int32) (one : Int32) : ∀ k, p_sp τ g one k = (-1, 0) ∨ ∃ j, j < k ∧ p_sp τ g one k = (nI j, p_fl τ g one (nI j))
  | 0 => Or.inl rfl
  | k + 1 => by
    unfold p_sp
    have ih : p_sp τ g one k = (-1, 0) ∨ ∃ j, j < k + 1 ∧ p_sp τ g one k = (nI j, p_fl τ g one (nI j)) := by
      rcases p_sp_inv τ g one k with h | ⟨j, hj, h⟩
      · exact Or.inl h
      · exact Or.inr ⟨j, by omega, h⟩
    by_cases c1 : it (g 2) 24 (nI k) ≤ 0
    · rw [if_pos c1]
      exact ih
    · rw [if_neg c1]
      by_cases c2 : (p_sp τ g one k).1 = -1
      · rw [if_pos c2]
        exact Or.inr ⟨k, by omega, rfl⟩
      · rw [if_neg c2]
        by_cases c3 : p_fl τ g one (nI k) ≤ (p_sp τ g one k).2
        · rw [if_pos c3]
          exact ih
        · rw [if_neg c3]
          exact Or.inr ⟨k, by omega, rfl⟩
def p_sf (g : Nat → Nat → Int32) : Nat → Int32 × Int32
  | 0 => (-1, 0)
  | k + 1 => if it (g 2) 24 (nI k) ≤ (p_sf g k).2 then p_sf g k else (nI k, it (g 2) 24 (nI k))
section BEST
variable {a b : Int32} {S S0 : ri_H} {T : Nat} {τ : Int32 → Int32 → List Int32}
theorem l7_ok {Q : Int32 → ri_H → Prop} {one : Int32} (h : R T τ S0) (hQ : ∀ S', ag CX S0 S' → Q (p_sp τ (gm S0) one 24).1 S') : ∀ d k S, k + d = 24 → ag CX S0 S → w87_l7 Q (d + 1) one (p_sp τ (gm S0) one k).1 (p_sp τ (gm S0) one k).2 (nI k) S
  | 0, k, S, hk, a => by
    have hk' : k = 24 := hk
    subst hk'
    unfold w87_l7
    exact ⟨fun _ => hQ S a, fun c => absurd (show (24 : Int32) ≤ nI 24 by decide) c⟩
  | d + 1, k, S, hk, a => by
    unfold w87_l7 w87_b52 w87_b58
    have h1 := R_c h a
    have g1 : gm S = gm S0 := c_gm a
    rw [gw_it S 10 2 24 rfl (by decide), R_w h1, g1, nI_1]
    have nx : ∀ S', ag CX S0 S' → w87_l7 Q (d + 1) one (p_sp τ (gm S0) one (k + 1)).1 (p_sp τ (gm S0) one (k + 1)).2 (nI (k + 1)) S' := fun S' a' => l7_ok h hQ d (k + 1) S' (by omega) a'
    unfold p_sp at nx
    refine ⟨fun c => absurd c (nI_ge (b := 24) (by omega) (by decide)), fun _ => ⟨fun c => ?_, fun c => w42_ok (Or.inl rfl) (R_tc h1) (fun S1 a1 => ?_)⟩⟩
    · have q := nx S a
      rw [if_pos c] at q
      exact q
    · have q := nx S1 (ag_tr a (ag_mo a1 (by decide)))
      rw [if_neg c] at q
      rw [R_w h1, g1]
      refine ⟨fun c2 => ?_, fun c2 => ⟨fun c3 => ?_, fun c3 => ?_⟩⟩
      · rw [if_pos c2] at q
        exact q
      · rw [if_neg c2, if_pos c3] at q
        exact q
      · rw [if_neg c2, if_neg c3] at q
        exact q
theorem l8_ok {Q : Int32 → ri_H → Prop} {p : Nat} (hp : p < 5) (h : R T τ S0) (hQ : ∀ S', am [] F1 S0 S' → Q (if b = 0 then (p_sp τ (gm S0) (nI p) 24).1 else (p_sp τ (gm S0) (nI p) 24).2) S') : ∀ d k S, k + d = 24 → am [] F1 S0 S → w186_l8 Q (d + 1) (nI p) b (p_sp τ (gm S0) (nI p) k).1 (p_sp τ (gm S0) (nI p) k).2 (nI k) S
  | 0, k, S, hk, a => by
    have hk' : k = 24 := hk
    subst hk'
    unfold w186_l8
    have q := hQ S a
    refine ⟨fun _ => ⟨fun c => ?_, fun c => ?_⟩, fun c => absurd (show (24 : Int32) ≤ nI 24 by decide) c⟩
    · rw [if_neg c] at q
      exact q
    · rw [if_pos (Decidable.not_not.mp c)] at q
      exact q
  | d + 1, k, S, hk, a => by
    unfold w186_l8 w186_b46 w186_b53
    have h1 := R_F1 h a
    have g1 : gm S = gm S0 := gm_F1 a
    have hk24 : k < 24 := by omega
    rw [nI_clamp (by omega), gm_2 hk24, g1, nI_1]
    have nx : ∀ S', am [] F1 S0 S' → w186_l8 Q (d + 1) (nI p) b (p_sp τ (gm S0) (nI p) (k + 1)).1 (p_sp τ (gm S0) (nI p) (k + 1)).2 (nI (k + 1)) S' := fun S' a' => l8_ok hp h hQ d (k + 1) S' (by omega) a'
    unfold p_sp at nx
    rw [it_nI _ hk24 (by decide)] at nx
    refine ⟨fun c => absurd c (nI_ge (b := 24) (by omega) (by decide)), fun _ => ⟨vp_in_nI hk24 (by decide), fun c => ?_, fun c => w167_ok hp hk24 (R_mt h1) (fun S1 a1 => ?_)⟩⟩
    · have q := nx S a
      rw [if_pos c] at q
      exact q
    · have q := nx S1 (am_tr a a1)
      rw [if_neg c] at q
      rw [g1]
      refine ⟨fun c2 => ?_, fun c2 => ⟨fun c3 => ?_, fun c3 => ?_⟩⟩
      · rw [if_pos c2] at q
        exact q
      · rw [if_neg c2, if_pos c3] at q
        exact q
      · rw [if_neg c2, if_neg c3] at q
        exact q
theorem l6_ok {Q : Int32 → ri_H → Prop} (hQ : Q (p_sf (gw S 10) 24).1 S) : ∀ d k, k + d = 24 → w88_l6 Q (d + 1) (p_sf (gw S 10) k).1 (p_sf (gw S 10) k).2 (nI k) S
  | 0, k, hk => by
    have hk' : k = 24 := hk
    subst hk'
    unfold w88_l6
    exact ⟨fun _ => hQ, fun c => absurd (show (24 : Int32) ≤ nI 24 by decide) c⟩
  | d + 1, k, hk => by
    unfold w88_l6 w88_b36
    rw [gw_it S 10 2 24 rfl (by decide), nI_1]
    have q := l6_ok hQ d (k + 1) (by omega)
    unfold p_sf at q
    refine ⟨fun c => absurd c (nI_ge (b := 24) (by omega) (by decide)), fun _ => ⟨fun c => ?_, fun c => ?_⟩⟩
    · rw [if_pos c] at q
      exact q
    · rw [if_neg c] at q
      exact q
theorem l6m_ok {Q : Int32 → ri_H → Prop} (hQ : Q (p_sf (gm S) 24).1 S) : ∀ d k, k + d = 24 → w187_l6 Q (d + 1) (p_sf (gm S) k).1 (p_sf (gm S) k).2 (nI k) S
  | 0, k, hk => by
    have hk' : k = 24 := hk
    subst hk'
    unfold w187_l6
    exact ⟨fun _ => hQ, fun c => absurd (show (24 : Int32) ≤ nI 24 by decide) c⟩
  | d + 1, k, hk => by
    unfold w187_l6 w187_b31
    have hk24 : k < 24 := by omega
    rw [nI_clamp (by omega), gm_2 hk24, nI_1]
    have q := l6m_ok hQ d (k + 1) (by omega)
    unfold p_sf at q
    rw [it_nI _ hk24 (by decide)] at q
    refine ⟨fun c => absurd c (nI_ge (b := 24) (by omega) (by decide)), fun _ => ⟨vp_in_nI hk24 (by decide), fun c => ?_, fun c => ⟨vp_in_nI hk24 (by decide), ?_⟩⟩⟩
    · rw [if_pos c] at q
      exact q
    · rw [if_neg c] at q
      exact q
theorem f_best {Q : Int32 → Int32 → ri_H → Prop} (h : RR S) (hQ : ∀ r S', RR S' → Q r r S') : w63 a b S (fun r S1 => w188 a b S1 (fun r2 S2 => Q r r2 S2)) := by
  have h0 := h
  obtain ⟨T, τ, h⟩ := h
  obtain ⟨L, hL, l1, l2, l3⟩ := R_L h
  unfold w63
  rw [l1]
  rcases wi_d a (n := L) (by omega) with ⟨p, hp, rfl, hw⟩ | ⟨hw, hne⟩
  · rcases wi_d b (n := 3) (by decide) with ⟨w, hw3, rfl, hw2⟩ | ⟨hw2, hne2⟩
    · have hw2 : wi (nI w) 3 = 1 := hw2
      rw [hw, hw2]
      have M : ∀ (S1 : ri_H) (r : Int32), S1.1 50 11 = nI L → ((¬ nI w = (2 : Int32) → w186 (nI p) (nI w) S1 (fun (r6 : Int32) (S5 : ri_H) => Q r r6 S5)) ∧ (¬ (¬ nI w = (2 : Int32)) → w187 S1 (fun (r8 : Int32) (S7 : ri_H) => Q r r8 S7))) → w188 (nI p) (nI w) S1 (fun r2 S2 => Q r r2 S2) := fun S1 r l hM =>
        w104_ok hL l (fun _ _ _ => ⟨fun c => absurd c (by decide), fun _ => w102_n (m := 2) (by decide) (by decide) (fun _ _ _ => ⟨fun _ => hM, fun c => absurd (by decide) c⟩) (fun hh => absurd rfl (hh w hw3))⟩) (fun hh => absurd rfl (hh p hp))
      refine ⟨fun c => absurd c (by decide), fun _ => ⟨fun _ => ⟨fun c2 => ⟨25, ?_⟩, fun c2 => ⟨25, ?_⟩⟩, fun c => absurd (by decide) c⟩⟩
      · refine l7_ok (one := nI p) h (fun S1 a1 => ?_) 24 0 S rfl (ag_refl _ _)
        have h1 := R_c h a1
        have g1 := c_gm a1
        have fin : ∀ (S2 : ri_H) (r : Int32), ag CX S S2 → r = (if nI w = 0 then (p_sp τ (gm S) (nI p) 24).1 else (p_sp τ (gm S) (nI p) 24).2) → w188 (nI p) (nI w) S2 (fun r2 S3 => Q r r2 S3) := by
          intro S2 r a2 er
          have h2 := R_c h a2
          have g2 := c_gm a2
          refine M S2 r (by rw [gm_9, g2]; exact l3) ⟨fun _ => ⟨25, l8_ok (by omega) h2 (fun S3 a3 => ?_) 24 0 S2 rfl (am_refl _ _ _)⟩, fun c => absurd c2 c⟩
          rw [g2, ← er]
          exact hQ _ _ ⟨T, τ, R_F1 h2 a3⟩
        refine ⟨fun c0 => ⟨fun c1 => ?_, fun c1 => ?_⟩, fun c0 => fin S1 _ a1 ?_⟩
        · rcases p_sp_inv τ (gm S) (nI p) 24 with e | ⟨j, hj, e⟩
          · exact absurd (by rw [e]) c1
          · rw [e]
            refine w42_ok (Or.inl rfl) (R_tc h1) (fun S2 a2 => fin S2 _ (ag_tr a1 (ag_mo a2 (by decide))) ?_)
            rw [if_neg c0, e, R_w h1, g1]
        · rcases p_sp_inv τ (gm S) (nI p) 24 with e | ⟨j, hj, e⟩
          · refine fin S1 _ a1 ?_
            rw [if_neg c0, e]
          · have c1 := Decidable.not_not.mp c1
            rw [e] at c1
            exact absurd c1 (fun q => nI_pos (n := j) (by omega) (by
              have q : nI j = -1 := q
              rw [q]
              decide))
        · rw [if_pos (Decidable.not_not.mp c0)]
      · have fin := M S (p_sf (gw S 10) 24).1 l2 ⟨fun c => absurd c c2, fun _ => ⟨25, l6m_ok (by rw [R_w h]; exact hQ _ _ h0) 24 0 rfl⟩⟩
        exact l6_ok (Q := fun r S1 => w188 (nI p) (nI w) S1 (fun r2 S2 => Q r r2 S2)) fin 24 0 rfl
    · have hw2 : wi b 3 = 0 := hw2
      rw [hw, hw2]
      refine ⟨fun c => absurd c (by decide), fun _ => ⟨fun c => absurd rfl c, fun _ => ?_⟩⟩
      exact w104_ok hL l2 (fun _ _ _ => ⟨fun c => absurd c (by decide), fun _ => w102_n (m := 2) (by decide) (by decide) (fun j hj e => absurd e (hne2 j hj)) (fun _ => ⟨fun c => absurd rfl c, fun _ => hQ _ _ h0⟩)⟩) (fun hh => absurd rfl (hh p hp))
  · rw [hw]
    exact ⟨fun _ => w104_ok hL l2 (fun j hj e => absurd e (hne j hj)) (fun _ => ⟨fun _ => hQ _ _ h0, fun c => absurd rfl c⟩), fun c => absurd rfl c⟩
end BEST
/-! image, back -/
section IMAGE
variable {S S0 : ri_H} {Q : Int32 → Int32 → ri_H → Prop}
theorem gmk_like {S S' : ri_H} (h54 : ∀ j, j < 24 → S'.1 63 j = S.1 54 j) (h55 : ∀ j, j < 24 → S'.1 64 j = S.1 55 j) (h56 : ∀ j, j < 25 → S'.1 65 j = S.1 56 j) (h4 : S'.1 50 38 = S.1 50 4) (h7 : S'.1 50 37 = S.1 50 7) (h11 : S'.1 50 36 = S.1 50 11) : gmk S' = gm S := by
  have n54 : nz 24 (S'.1 63) = nz 24 (S.1 54) := by
    funext j
    unfold nz
    by_cases c : j < 24
    · rw [if_pos c, if_pos c, h54 j c]
    · rw [if_neg c, if_neg c]
  have n55 : nz 24 (S'.1 64) = nz 24 (S.1 55) := by
    funext j
    unfold nz
    by_cases c : j < 24
    · rw [if_pos c, if_pos c, h55 j c]
    · rw [if_neg c, if_neg c]
  have n56 : ∀ i, i < 5 → nz 5 (fun p => S'.1 65 (5 * p + i)) = nz 5 (fun p => S.1 56 (5 * p + i)) := by
    intro i hi
    funext p
    unfold nz
    by_cases c : p < 5
    · rw [if_pos c, if_pos c]
      exact h56 (5 * p + i) (by omega)
    · rw [if_neg c, if_neg c]
  unfold gm gmk
  rw [h4, h7, h11, n54, n55]
  have a0 := n56 0 (by decide)
  have a1 := n56 1 (by decide)
  have a2 := n56 2 (by decide)
  have a3 := n56 3 (by decide)
  have a4 := n56 4 (by decide)
  simp only [Nat.add_zero] at a0
  rw [a0, a1, a2, a3, a4]
theorem gm_like2 {S S' : ri_H} (h54 : ∀ j, j < 24 → S'.1 54 j = S.1 63 j) (h55 : ∀ j, j < 24 → S'.1 55 j = S.1 64 j) (h56 : ∀ j, j < 25 → S'.1 56 j = S.1 65 j) (h4 : S'.1 50 4 = S.1 50 38) (h7 : S'.1 50 7 = S.1 50 37) (h11 : S'.1 50 11 = S.1 50 36) : gm S' = gmk S := by
  have n54 : nz 24 (S'.1 54) = nz 24 (S.1 63) := by
    funext j
    unfold nz
    by_cases c : j < 24
    · rw [if_pos c, if_pos c, h54 j c]
    · rw [if_neg c, if_neg c]
  have n55 : nz 24 (S'.1 55) = nz 24 (S.1 64) := by
    funext j
    unfold nz
    by_cases c : j < 24
    · rw [if_pos c, if_pos c, h55 j c]
    · rw [if_neg c, if_neg c]
  have n56 : ∀ i, i < 5 → nz 5 (fun p => S'.1 56 (5 * p + i)) = nz 5 (fun p => S.1 65 (5 * p + i)) := by
    intro i hi
    funext p
    unfold nz
    by_cases c : p < 5
    · rw [if_pos c, if_pos c]
      exact h56 (5 * p + i) (by omega)
    · rw [if_neg c, if_neg c]
  unfold gm gmk
  rw [h4, h7, h11, n54, n55]
  have a0 := n56 0 (by decide)
  have a1 := n56 1 (by decide)
  have a2 := n56 2 (by decide)
  have a3 := n56 3 (by decide)
  have a4 := n56 4 (by decide)
  simp only [Nat.add_zero] at a0
  rw [a0, a1, a2, a3, a4]
theorem w196_l40_ok {Q : Int32 → ri_H → Prop} (hQ : ∀ S', am [63, 64, 65] [36, 37, 38] S0 S' → gmk S' = gm S0 → Q (S0.1 50 11) S') : ∀ d k S, k + d = 25 → am [63, 64, 65] [] S0 S → (∀ j, j < 24 → S.1 63 j = S0.1 54 j ∧ S.1 64 j = S0.1 55 j) → (∀ j, j < k → S.1 65 j = S0.1 56 j) → w196_l40 Q (d + 1) (nI k) S
  | 0, k, S, hk, a, h1, h2 => by
    have hk' : k = 25 := hk
    subst hk'
    unfold w196_l40
    rw [(a.2 11 (by decide)).1, (a.2 7 (by decide)).1, (a.2 4 (by decide)).1]
    refine ⟨fun _ => hQ _ (am_f (am_f (am_f (am_mo a (by decide) (by decide)) (by decide)) (by decide)) (by decide)) (gmk_like (fun j hj => ?_) (fun j hj => ?_) (fun j hj => ?_) ?_ ?_ ?_), fun c => absurd (show (25 : Int32) ≤ nI 25 by decide) c⟩
    · rw [ri_wi_o _ _ _ (by decide), ri_wi_o _ _ _ (by decide), ri_wi_o _ _ _ (by decide)]
      exact (h1 j hj).1
    · rw [ri_wi_o _ _ _ (by decide), ri_wi_o _ _ _ (by decide), ri_wi_o _ _ _ (by decide)]
      exact (h1 j hj).2
    · rw [ri_wi_o _ _ _ (by decide), ri_wi_o _ _ _ (by decide), ri_wi_o _ _ _ (by decide)]
      exact h2 j hj
    · rw [ri_wi_1, pk_us]
    · rw [ri_wi_1, pk_un (by decide), ri_wi_1, pk_us]
    · rw [ri_wi_1, pk_un (by decide), ri_wi_1, pk_un (by decide), ri_wi_1, pk_us]
  | d + 1, k, S, hk, a, h1, h2 => by
    unfold w196_l40
    rw [nI_clamp (n := k) (by omega), nI_1]
    refine ⟨fun c => absurd c (nI_ge (b := 25) (by omega) (by decide)), fun _ => ⟨vp_in_nI (by omega) (by decide), vp_in_nI (by omega) (by decide), ?_⟩⟩
    refine w196_l40_ok hQ d (k + 1) _ (by omega) (am_wi a (by decide) (by decide)) (fun j hj => ?_) (fun j hj => ?_)
    · rw [ri_wi_o (c := 63) _ _ _ (by decide), ri_wi_o (c := 64) _ _ _ (by decide)]
      exact h1 j hj
    · rw [ri_wi_1]
      by_cases e : j = k
      · subst e
        rw [pk_us, (a.1 56 (by decide) (by decide)).1]
      · rw [pk_un e]
        exact h2 j (by omega)
theorem w196_l2_ok {Q : Int32 → ri_H → Prop} (hQ : ∀ S', am [63, 64, 65] [36, 37, 38] S0 S' → gmk S' = gm S0 → Q (S0.1 50 11) S') : ∀ d k S, k + d = 24 → am [63, 64, 65] [] S0 S → (∀ j, j < k → S.1 63 j = S0.1 54 j ∧ S.1 64 j = S0.1 55 j) → w196_l2 Q (d + 1) (nI k) S
  | 0, k, S, hk, a, h1 => by
    have hk' : k = 24 := hk
    subst hk'
    unfold w196_l2
    exact ⟨fun _ => ⟨26, w196_l40_ok hQ 25 0 S rfl a h1 (fun j hj => absurd hj (Nat.not_lt_zero j))⟩, fun c => absurd (show (24 : Int32) ≤ nI 24 by decide) c⟩
  | d + 1, k, S, hk, a, h1 => by
    unfold w196_l2
    rw [nI_clamp (n := k) (by omega), nI_1]
    refine ⟨fun c => absurd c (nI_ge (b := 24) (by omega) (by decide)), fun _ => ⟨vp_in_nI (by omega) (by decide), vp_in_nI (by omega) (by decide), vp_in_nI (by omega) (by decide), vp_in_nI (by omega) (by decide), ?_⟩⟩
    refine w196_l2_ok hQ d (k + 1) _ (by omega) (am_wi (am_wi a (by decide) (by decide)) (by decide) (by decide)) (fun j hj => ?_)
    rw [ri_wi_o (c := 63) _ _ _ (by decide), ri_wi_1, ri_wi_1, ri_wi_o (c := 64) _ _ _ (by decide)]
    by_cases e : j = k
    · subst e
      rw [pk_us, pk_us, (a.1 54 (by decide) (by decide)).1, (a.1 55 (by decide) (by decide)).1]
      exact ⟨rfl, rfl⟩
    · rw [pk_un e, pk_un e]
      exact h1 j (by omega)
theorem w196_ok {Q : Int32 → ri_H → Prop} (hQ : ∀ S', am [63, 64, 65] [36, 37, 38] S0 S' → gmk S' = gm S0 → Q (S0.1 50 11) S') : w196 S0 Q :=
  ⟨25, w196_l2_ok hQ 24 0 S0 rfl (am_refl _ _ _) (fun j hj => absurd hj (Nat.not_lt_zero j))⟩
theorem w197_l51_ok {Q : Int32 → ri_H → Prop} (hQ : ∀ S', am [54, 55, 56] [4, 7, 11] S0 S' → gm S' = gmk S0 → Q (S0.1 50 36) S') : ∀ d k S, k + d = 25 → am [54, 55, 56] [] S0 S → (∀ j, j < 24 → S.1 54 j = S0.1 63 j ∧ S.1 55 j = S0.1 64 j) → (∀ j, j < k → S.1 56 j = S0.1 65 j) → w197_l51 Q (d + 1) (nI k) S
  | 0, k, S, hk, a, h1, h2 => by
    have hk' : k = 25 := hk
    subst hk'
    unfold w197_l51
    rw [(a.2 36 (by decide)).1, (a.2 37 (by decide)).1, (a.2 38 (by decide)).1]
    refine ⟨fun _ => hQ _ (am_f (am_f (am_f (am_mo a (by decide) (by decide)) (by decide)) (by decide)) (by decide)) (gm_like2 (fun j hj => ?_) (fun j hj => ?_) (fun j hj => ?_) ?_ ?_ ?_), fun c => absurd (show (25 : Int32) ≤ nI 25 by decide) c⟩
    · rw [ri_wi_o _ _ _ (by decide), ri_wi_o _ _ _ (by decide), ri_wi_o _ _ _ (by decide)]
      exact (h1 j hj).1
    · rw [ri_wi_o _ _ _ (by decide), ri_wi_o _ _ _ (by decide), ri_wi_o _ _ _ (by decide)]
      exact (h1 j hj).2
    · rw [ri_wi_o _ _ _ (by decide), ri_wi_o _ _ _ (by decide), ri_wi_o _ _ _ (by decide)]
      exact h2 j hj
    · rw [ri_wi_1, pk_us]
    · rw [ri_wi_1, pk_un (by decide), ri_wi_1, pk_us]
    · rw [ri_wi_1, pk_un (by decide), ri_wi_1, pk_un (by decide), ri_wi_1, pk_us]
  | d + 1, k, S, hk, a, h1, h2 => by
    unfold w197_l51
    rw [nI_clamp (n := k) (by omega), nI_1]
    refine ⟨fun c => absurd c (nI_ge (b := 25) (by omega) (by decide)), fun _ => ⟨vp_in_nI (by omega) (by decide), vp_in_nI (by omega) (by decide), ?_⟩⟩
    refine w197_l51_ok hQ d (k + 1) _ (by omega) (am_wi a (by decide) (by decide)) (fun j hj => ?_) (fun j hj => ?_)
    · rw [ri_wi_o (c := 54) _ _ _ (by decide), ri_wi_o (c := 55) _ _ _ (by decide)]
      exact h1 j hj
    · rw [ri_wi_1]
      by_cases e : j = k
      · subst e
        rw [pk_us, (a.1 65 (by decide) (by decide)).1]
      · rw [pk_un e]
        exact h2 j (by omega)
theorem w197_l13_ok {Q : Int32 → ri_H → Prop} (hQ : ∀ S', am [54, 55, 56] [4, 7, 11] S0 S' → gm S' = gmk S0 → Q (S0.1 50 36) S') : ∀ d k S, k + d = 24 → am [54, 55, 56] [] S0 S → (∀ j, j < k → S.1 54 j = S0.1 63 j ∧ S.1 55 j = S0.1 64 j) → w197_l13 Q (d + 1) (nI k) S
  | 0, k, S, hk, a, h1 => by
    have hk' : k = 24 := hk
    subst hk'
    unfold w197_l13
    exact ⟨fun _ => ⟨26, w197_l51_ok hQ 25 0 S rfl a h1 (fun j hj => absurd hj (Nat.not_lt_zero j))⟩, fun c => absurd (show (24 : Int32) ≤ nI 24 by decide) c⟩
  | d + 1, k, S, hk, a, h1 => by
    unfold w197_l13
    rw [nI_clamp (n := k) (by omega), nI_1]
    refine ⟨fun c => absurd c (nI_ge (b := 24) (by omega) (by decide)), fun _ => ⟨vp_in_nI (by omega) (by decide), vp_in_nI (by omega) (by decide), vp_in_nI (by omega) (by decide), vp_in_nI (by omega) (by decide), ?_⟩⟩
    refine w197_l13_ok hQ d (k + 1) _ (by omega) (am_wi (am_wi a (by decide) (by decide)) (by decide) (by decide)) (fun j hj => ?_)
    rw [ri_wi_o (c := 54) _ _ _ (by decide), ri_wi_1, ri_wi_1, ri_wi_o (c := 55) _ _ _ (by decide)]
    by_cases e : j = k
    · subst e
      rw [pk_us, pk_us, (a.1 63 (by decide) (by decide)).1, (a.1 64 (by decide) (by decide)).1]
      exact ⟨rfl, rfl⟩
    · rw [pk_un e, pk_un e]
      exact h1 j (by omega)
theorem f_image (h : RR S) (hQ : ∀ r S', RR S' → Q r r S') : w68 S (fun r S1 => w196 S1 (fun r2 S2 => Q r r2 S2)) := by
  obtain ⟨T, τ, h⟩ := h
  obtain ⟨L, hL, l1, l2, l3⟩ := R_L h
  unfold w68
  refine w33_ok (Or.inr (Or.inr ⟨rfl, rfl⟩)) (fun S1 a1 e1 => ?_)
  have a1' : ag [0, 28, 29, 30, 31, 32, 33, 34, 35] S (ri_wi S1 0 10 1) := ag_wi (ag_mo a1 (by decide)) (by decide)
  have e9 : S1.1 10 9 = nI L := by rw [(a1 10 (by decide)).1]; exact l1
  rw [e9]
  refine w196_ok (fun S2 a2 e2 => ?_)
  have e11 : (ri_wi S1 0 10 1).1 50 11 = nI L := by rw [(a1' 50 (by decide)).1]; exact l2
  rw [e11]
  have g1 : gm (ri_wi S1 0 10 1) = gm S := gm_ag a1' (by decide)
  obtain ⟨h1, h2, h3, h4, h5⟩ := h
  refine hQ _ _ ⟨T, τ, rW_k h1 (kW_tr (kW_ag a1' (by decide) (by decide)) ⟨gw_am (by decide) a2 (in8 (by decide)), gm_am a2 (by decide) (by decide) (by decide) (by decide) (by decide) (by decide)⟩), rT_k h2 (kT_tr (kT_ag a1' (by decide)) (kT_am a2 (by decide) (by decide))), rP_k h3 (kP_tr (kP_ag a1' (by decide)) (kP_am a2 (by decide) (by decide))), Or.inr ⟨?_, ?_, ?_⟩, rS_k h5 (kS_tr (kS_ag a1' (by decide) (by decide)) (kS_am a2 (by decide) (by decide)))⟩
  · rw [(a2.1 0 (by decide) (by decide)).1, ri_wi_1, pk_us]
  · rw [gw_am (by decide) a2 (in8 (by decide)), e2, g1, ← h1.1, ← e1]
    exact gw_ag (ag_wi (ag_refl [0] S1) (by decide)) (in8 (by decide))
  · rw [e2, g1]
    exact h1.2
theorem f_back (h : RR S) (hQ : ∀ r S', RR S' → Q r r S') : w69 S (fun r S1 => w197 S1 (fun r2 S2 => Q r r2 S2)) := by
  have h0 := h
  obtain ⟨T, τ, h⟩ := h
  unfold w69
  rcases h.2.2.2.1 with ⟨i1, i2⟩ | ⟨i1, i2, i3⟩
  · rw [i1]
    refine ⟨fun c => absurd rfl c, fun _ => ⟨fun c => absurd i2 c, fun _ => hQ _ _ h0⟩⟩
  · rw [i1]
    obtain ⟨L, hL, eL⟩ := i3.1.1
    refine ⟨fun _ => w33_ok (Or.inl ⟨rfl, rfl⟩) (fun S1 a1 e1 => ?_), fun c => absurd (by decide) c⟩
    have a1' : ag CW S S1 := ag_mo a1 (by decide)
    have e9 : S1.1 10 9 = nI L := by rw [gw_0 S1 10 9 (by decide), e1, i2, eL]
    have k1 : gmk S1 = gmk S := gmk_ag a1' (by decide)
    have e36 : S1.1 50 36 = nI L := by
      have : S1.1 50 36 = gmk S1 0 9 := rfl
      rw [this, k1, eL]
    rw [e9]
    show w197 S1 (fun r2 S2 => Q (nI L) r2 S2)
    unfold w197
    rw [e36]
    refine ⟨fun _ => ⟨25, w197_l13_ok (S0 := S1) (fun S2 a2 e2 => ?_) 24 0 S1 rfl (am_refl _ _ _) (fun j hj => absurd hj (Nat.not_lt_zero j))⟩, fun c => absurd (Decidable.not_not.mp c) (fun e => nI_pos (n := L) (by omega) (by rw [e]; decide))⟩
    rw [e36]
    refine hQ _ _ ⟨T, τ, R_wr h a1' (am_mo a2 (by decide) (by decide)) ?_ ?_⟩
    · rw [e2, gw_am (by decide) a2 (in8 (by decide)), e1, i2, k1]
    · rw [e2, k1]
      exact i3
end IMAGE
/-! taken -/
def und (k : Nat) (t : Int32) : Prop := match k with
  | 0 => 0 = t
  | 1 => 1 = t ∨ 0 = t
  | 2 => 2 = t ∨ 0 = t
  | 3 => 3 = t ∨ 1 = t ∨ 0 = t
  | 4 => 4 = t ∨ 2 = t ∨ 0 = t
  | _ => 5 = t ∨ 0 = t
section TAKEN
variable {a t : Int32} {S : ri_H} {Q : Int32 → ri_H → Prop}
theorem b71_ok {x : Int32} (h1 : x = t → Q (it (S.1 14) 5 a) S) (h0 : ¬ x = t → Q (-13) S) : w75_b71 Q a t x S := ⟨fun c => h0 c, fun c => h1 (Decidable.not_not.mp c)⟩
theorem i6 {i : Nat} (h : i < 6) : ¬ (6 : Int32) ≤ nI i := nI_ge (b := 6) h (by decide)
theorem tc0 {i f : Nat} (hi : i + 0 < 6) (h1 : und 0 t → Q (it (S.1 14) 5 a) S) (h0 : ¬ und 0 t → Q (-13) S) : w75_l41 Q (f + 0 + 1) a t 0 (nI i) S := by
  unfold w75_l41
  exact ⟨fun c => absurd c (i6 (by omega)), fun _ => ⟨fun c => b71_ok h1 h0, fun c => ⟨fun _ => b71_ok h1 h0, fun c => absurd rfl c⟩⟩⟩
theorem tc1 {i f : Nat} (hi : i + 1 < 6) (h1 : und 1 t → Q (it (S.1 14) 5 a) S) (h0 : ¬ und 1 t → Q (-13) S) : w75_l41 Q (f + 1 + 1) a t 1 (nI i) S := by
  unfold w75_l41
  refine ⟨fun c => absurd c (i6 (by omega)), fun _ => ⟨fun c => b71_ok (fun _ => h1 (Or.inl c)) (fun n => absurd c n), fun c => ⟨fun c0 => absurd c0 (by decide), fun _ => ?_⟩⟩⟩
  have e : it (fun j => ri_under.getD j 0) 6 (1 : Int32) = 0 := by decide
  rw [e, nI_1]
  exact tc0 (i := i + 1) (f := f) (by omega) (fun u => h1 (Or.inr u)) (fun u => h0 (fun w => w.elim c u))
theorem tc2 {i f : Nat} (hi : i + 1 < 6) (h1 : und 2 t → Q (it (S.1 14) 5 a) S) (h0 : ¬ und 2 t → Q (-13) S) : w75_l41 Q (f + 1 + 1) a t 2 (nI i) S := by
  unfold w75_l41
  refine ⟨fun c => absurd c (i6 (by omega)), fun _ => ⟨fun c => b71_ok (fun _ => h1 (Or.inl c)) (fun n => absurd c n), fun c => ⟨fun c0 => absurd c0 (by decide), fun _ => ?_⟩⟩⟩
  have e : it (fun j => ri_under.getD j 0) 6 (2 : Int32) = 0 := by decide
  rw [e, nI_1]
  exact tc0 (i := i + 1) (f := f) (by omega) (fun u => h1 (Or.inr u)) (fun u => h0 (fun w => w.elim c u))
theorem tc3 {i f : Nat} (hi : i + 2 < 6) (h1 : und 3 t → Q (it (S.1 14) 5 a) S) (h0 : ¬ und 3 t → Q (-13) S) : w75_l41 Q (f + 2 + 1) a t 3 (nI i) S := by
  unfold w75_l41
  refine ⟨fun c => absurd c (i6 (by omega)), fun _ => ⟨fun c => b71_ok (fun _ => h1 (Or.inl c)) (fun n => absurd c n), fun c => ⟨fun c0 => absurd c0 (by decide), fun _ => ?_⟩⟩⟩
  have e : it (fun j => ri_under.getD j 0) 6 (3 : Int32) = 1 := by decide
  rw [e, nI_1]
  exact tc1 (i := i + 1) (f := f) (by omega) (fun u => h1 (Or.inr u)) (fun u => h0 (fun w => w.elim c u))
theorem tc4 {i f : Nat} (hi : i + 2 < 6) (h1 : und 4 t → Q (it (S.1 14) 5 a) S) (h0 : ¬ und 4 t → Q (-13) S) : w75_l41 Q (f + 2 + 1) a t 4 (nI i) S := by
  unfold w75_l41
  refine ⟨fun c => absurd c (i6 (by omega)), fun _ => ⟨fun c => b71_ok (fun _ => h1 (Or.inl c)) (fun n => absurd c n), fun c => ⟨fun c0 => absurd c0 (by decide), fun _ => ?_⟩⟩⟩
  have e : it (fun j => ri_under.getD j 0) 6 (4 : Int32) = 2 := by decide
  rw [e, nI_1]
  exact tc2 (i := i + 1) (f := f) (by omega) (fun u => h1 (Or.inr u)) (fun u => h0 (fun w => w.elim c u))
theorem tc5 {i f : Nat} (hi : i + 1 < 6) (h1 : und 5 t → Q (it (S.1 14) 5 a) S) (h0 : ¬ und 5 t → Q (-13) S) : w75_l41 Q (f + 1 + 1) a t 5 (nI i) S := by
  unfold w75_l41
  refine ⟨fun c => absurd c (i6 (by omega)), fun _ => ⟨fun c => b71_ok (fun _ => h1 (Or.inl c)) (fun n => absurd c n), fun c => ⟨fun c0 => absurd c0 (by decide), fun _ => ?_⟩⟩⟩
  have e : it (fun j => ri_under.getD j 0) 6 (5 : Int32) = 0 := by decide
  rw [e, nI_1]
  exact tc0 (i := i + 1) (f := f) (by omega) (fun u => h1 (Or.inr u)) (fun u => h0 (fun w => w.elim c u))
theorem b55_ok {p : Nat} (hp : p < 5) {x : Int32} (h1 : x = t → Q (gm S 4 p) S) (h0 : ¬ x = t → Q (-13) S) : w205_b55 Q (nI p) t x S := by
  unfold w205_b55
  rw [x5_0, nI_clamp (by omega), gm_4 hp]
  exact ⟨fun c => h0 c, fun c => ⟨vp_in_nI (by omega) (by decide), h1 (Decidable.not_not.mp c)⟩⟩
theorem tm0 {p f : Nat} (hp : p < 5) (ht : ¬ t = -1) (h1 : und 0 t → Q (gm S 4 p) S) (h0 : ¬ und 0 t → Q (-13) S) : w205_l37 Q (f + 0 + 2) (nI p) t 0 S := by
  unfold w205_l37 w204
  refine ⟨fun c => absurd c (by decide), fun _ => ⟨fun c => b55_ok hp h1 h0, fun c => ⟨fun c => absurd rfl c, fun _ => ?_⟩⟩⟩
  show w205_l37 Q (f + 0 + 1) (nI p) t (-1) S
  unfold w205_l37
  exact ⟨fun _ => b55_ok hp (fun e => absurd e.symm ht) (fun _ => h0 c), fun c => absurd rfl c⟩
theorem tm1 {p f : Nat} (hp : p < 5) (ht : ¬ t = -1) (h1 : und 1 t → Q (gm S 4 p) S) (h0 : ¬ und 1 t → Q (-13) S) : w205_l37 Q (f + 1 + 2) (nI p) t 1 S := by
  unfold w205_l37 w204
  refine ⟨fun c => absurd c (by decide), fun _ => ⟨fun c => b55_ok hp (fun _ => h1 (Or.inl c)) (fun n => absurd c n), fun c => ⟨fun _ => ⟨fun _ => ⟨fun _ => ?_, fun c => absurd (show ¬ (1 : Int32) = 4 by decide) c⟩, fun c => absurd (show ¬ (1 : Int32) = 3 by decide) c⟩, fun c => absurd (show ¬ (1 : Int32) = 0 by decide) c⟩⟩⟩
  exact tm0 (f := f) hp ht (fun u => h1 (Or.inr u)) (fun u => h0 (fun w => w.elim c u))
theorem tm2 {p f : Nat} (hp : p < 5) (ht : ¬ t = -1) (h1 : und 2 t → Q (gm S 4 p) S) (h0 : ¬ und 2 t → Q (-13) S) : w205_l37 Q (f + 1 + 2) (nI p) t 2 S := by
  unfold w205_l37 w204
  refine ⟨fun c => absurd c (by decide), fun _ => ⟨fun c => b55_ok hp (fun _ => h1 (Or.inl c)) (fun n => absurd c n), fun c => ⟨fun _ => ⟨fun _ => ⟨fun _ => ?_, fun c => absurd (show ¬ (2 : Int32) = 4 by decide) c⟩, fun c => absurd (show ¬ (2 : Int32) = 3 by decide) c⟩, fun c => absurd (show ¬ (2 : Int32) = 0 by decide) c⟩⟩⟩
  exact tm0 (f := f) hp ht (fun u => h1 (Or.inr u)) (fun u => h0 (fun w => w.elim c u))
theorem tm3 {p f : Nat} (hp : p < 5) (ht : ¬ t = -1) (h1 : und 3 t → Q (gm S 4 p) S) (h0 : ¬ und 3 t → Q (-13) S) : w205_l37 Q (f + 2 + 2) (nI p) t 3 S := by
  unfold w205_l37 w204
  refine ⟨fun c => absurd c (by decide), fun _ => ⟨fun c => b55_ok hp (fun _ => h1 (Or.inl c)) (fun n => absurd c n), fun c => ⟨fun _ => ⟨fun c => absurd rfl c, fun _ => ?_⟩, fun c => absurd (show ¬ (3 : Int32) = 0 by decide) c⟩⟩⟩
  exact tm1 (f := f) hp ht (fun u => h1 (Or.inr u)) (fun u => h0 (fun w => w.elim c u))
theorem tm4 {p f : Nat} (hp : p < 5) (ht : ¬ t = -1) (h1 : und 4 t → Q (gm S 4 p) S) (h0 : ¬ und 4 t → Q (-13) S) : w205_l37 Q (f + 2 + 2) (nI p) t 4 S := by
  unfold w205_l37 w204
  refine ⟨fun c => absurd c (by decide), fun _ => ⟨fun c => b55_ok hp (fun _ => h1 (Or.inl c)) (fun n => absurd c n), fun c => ⟨fun _ => ⟨fun _ => ⟨fun c => absurd rfl c, fun _ => ?_⟩, fun c => absurd (show ¬ (4 : Int32) = 3 by decide) c⟩, fun c => absurd (show ¬ (4 : Int32) = 0 by decide) c⟩⟩⟩
  exact tm2 (f := f) hp ht (fun u => h1 (Or.inr u)) (fun u => h0 (fun w => w.elim c u))
theorem tm5 {p f : Nat} (hp : p < 5) (ht : ¬ t = -1) (h1 : und 5 t → Q (gm S 4 p) S) (h0 : ¬ und 5 t → Q (-13) S) : w205_l37 Q (f + 1 + 2) (nI p) t 5 S := by
  unfold w205_l37 w204
  refine ⟨fun c => absurd c (by decide), fun _ => ⟨fun c => b55_ok hp (fun _ => h1 (Or.inl c)) (fun n => absurd c n), fun c => ⟨fun _ => ⟨fun _ => ⟨fun _ => ?_, fun c => absurd (show ¬ (5 : Int32) = 4 by decide) c⟩, fun c => absurd (show ¬ (5 : Int32) = 3 by decide) c⟩, fun c => absurd (show ¬ (5 : Int32) = 0 by decide) c⟩⟩⟩
  exact tm0 (f := f) hp ht (fun u => h1 (Or.inr u)) (fun u => h0 (fun w => w.elim c u))
theorem f_taken {a b : Int32} {Q : Int32 → Int32 → ri_H → Prop} (h : RR S) (hQ : ∀ r S', RR S' → Q r r S') : w75 a b S (fun r S1 => w205 a b S1 (fun r2 S2 => Q r r2 S2)) := by
  have h0 := h
  obtain ⟨T, τ, h⟩ := h
  obtain ⟨L, hL, l1, l2, l3⟩ := R_L h
  unfold w75
  rw [l1]
  rcases wi_d b (n := 6) (by decide) with ⟨t, ht, rfl, hw2⟩ | ⟨hw2, hne2⟩
  · have hw2 : wi (nI t) 6 = 1 := hw2
    rw [hw2]
    refine ⟨fun _ => ?_, fun c => absurd (by decide) c⟩
    rcases wi_d a (n := L) (by omega) with ⟨p, hp, rfl, hw⟩ | ⟨hw, hne⟩
    · rw [hw]
      refine ⟨fun _ => ?_, fun c => absurd (by decide) c⟩
      have p5 : p < 5 := by omega
      obtain ⟨k, hk, ek⟩ := (R_ok h).2.2.2.1 p p5
      have ec : it (S.1 13) 5 (nI p) = nI k := by rw [gw_it S 10 3 5 rfl (by decide), R_w h, it_nI _ p5 (by decide), ek]
      have en : it (S.1 14) 5 (nI p) = gm S 4 p := by rw [gw_it S 10 4 5 rfl (by decide), R_w h, it_nI _ p5 (by decide)]
      have em : S.1 56 (5 * p + 4) = nI k := by rw [row_4 p5, ek]
      have tn : ¬ nI t = -1 := fun e => nI_pos (n := t) (by omega) (by rw [e]; decide)
      have M : ∀ r, (∃ nn, w205_l37 (fun r2 S2 => Q r r2 S2) nn (nI p) (nI t) (nI k) S) → w205 (nI p) (nI t) S (fun r2 S2 => Q r r2 S2) := fun r hM =>
        w102_n (m := 5) (by decide) (by decide) (fun _ _ _ => ⟨fun _ => w104_ok hL l2 (fun _ _ _ => ⟨fun _ => ⟨by rw [x5_4]; exact vp_in_nI (by omega) (by decide), by rw [x5_4, nI_clamp (by omega), em]; exact hM⟩, fun c => absurd (by decide) c⟩) (fun hh => absurd rfl (hh p hp)), fun c => absurd (by decide) c⟩) (fun hh => absurd rfl (hh t ht))
      rw [ec]
      match k, hk, M with
      | 0, _, M => exact ⟨0 + 0 + 1, tc0 (i := 0) (by decide) (fun u => by rw [en]; exact M _ ⟨0 + 0 + 2, tm0 p5 tn (fun _ => hQ _ _ h0) (fun n => absurd u n)⟩) (fun u => M _ ⟨0 + 0 + 2, tm0 p5 tn (fun n => absurd n u) (fun _ => hQ _ _ h0)⟩)⟩
      | 1, _, M => exact ⟨0 + 1 + 1, tc1 (i := 0) (by decide) (fun u => by rw [en]; exact M _ ⟨0 + 1 + 2, tm1 p5 tn (fun _ => hQ _ _ h0) (fun n => absurd u n)⟩) (fun u => M _ ⟨0 + 1 + 2, tm1 p5 tn (fun n => absurd n u) (fun _ => hQ _ _ h0)⟩)⟩
      | 2, _, M => exact ⟨0 + 1 + 1, tc2 (i := 0) (by decide) (fun u => by rw [en]; exact M _ ⟨0 + 1 + 2, tm2 p5 tn (fun _ => hQ _ _ h0) (fun n => absurd u n)⟩) (fun u => M _ ⟨0 + 1 + 2, tm2 p5 tn (fun n => absurd n u) (fun _ => hQ _ _ h0)⟩)⟩
      | 3, _, M => exact ⟨0 + 2 + 1, tc3 (i := 0) (by decide) (fun u => by rw [en]; exact M _ ⟨0 + 2 + 2, tm3 p5 tn (fun _ => hQ _ _ h0) (fun n => absurd u n)⟩) (fun u => M _ ⟨0 + 2 + 2, tm3 p5 tn (fun n => absurd n u) (fun _ => hQ _ _ h0)⟩)⟩
      | 4, _, M => exact ⟨0 + 2 + 1, tc4 (i := 0) (by decide) (fun u => by rw [en]; exact M _ ⟨0 + 2 + 2, tm4 p5 tn (fun _ => hQ _ _ h0) (fun n => absurd u n)⟩) (fun u => M _ ⟨0 + 2 + 2, tm4 p5 tn (fun n => absurd n u) (fun _ => hQ _ _ h0)⟩)⟩
      | 5, _, M => exact ⟨0 + 1 + 1, tc5 (i := 0) (by decide) (fun u => by rw [en]; exact M _ ⟨0 + 1 + 2, tm5 p5 tn (fun _ => hQ _ _ h0) (fun n => absurd u n)⟩) (fun u => M _ ⟨0 + 1 + 2, tm5 p5 tn (fun n => absurd n u) (fun _ => hQ _ _ h0)⟩)⟩
      | k + 6, hk, _ => exact absurd hk (by omega)
    · rw [hw]
      refine ⟨fun c => absurd rfl c, fun _ => ?_⟩
      exact w102_n (m := 5) (by decide) (by decide) (fun _ _ _ => ⟨fun _ => w104_ok hL l2 (fun j hj e => absurd e (hne j hj)) (fun _ => ⟨fun c => absurd rfl c, fun _ => hQ _ _ h0⟩), fun c => absurd (by decide) c⟩) (fun hh => absurd rfl (hh t ht))
  · have hw2 : wi b 6 = 0 := hw2
    rw [hw2]
    refine ⟨fun c => absurd rfl c, fun _ => ?_⟩
    exact w102_n (m := 5) (by decide) (by decide) (fun j hj e => absurd e (hne2 j hj)) (fun _ => ⟨fun c => absurd rfl c, fun _ => hQ _ _ h0⟩)
end TAKEN
