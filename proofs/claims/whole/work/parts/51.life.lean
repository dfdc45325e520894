/-! life, feed, text, force, year, spoon -/
section LIFE
variable {a b g : Int32} {S : ri_H} {T : Nat} {τ : Int32 → Int32 → List Int32}
theorem lm_in {Q : Int32 → ri_H → Prop} {k u c : Nat} (hk : k < 6) (hu : u < 10) (hc : c < 12) (hQ : (¬ (S.1 50 11) = (5 : Int32) → (vp_in ((5 : Int32) * (S.1 50 11)) 25 ∧ (vp_in (((5 : Int32) * (S.1 50 11)) + (1 : Int32)) 25 ∧ (vp_in (((5 : Int32) * (S.1 50 11)) + (2 : Int32)) 25 ∧ (vp_in (((5 : Int32) * (S.1 50 11)) + (3 : Int32)) 25 ∧ (vp_in (((5 : Int32) * (S.1 50 11)) + (4 : Int32)) 25 ∧ Q (((S.1 50 11) + (1 : Int32)) - (1 : Int32)) (ri_wi (ri_wi (ri_wi (ri_wi (ri_wi (ri_wi S 56 (((5 : Int32) * (S.1 50 11))).toNatClampNeg (nI u)) 56 ((((5 : Int32) * (S.1 50 11)) + (1 : Int32))).toNatClampNeg (nI c)) 56 ((((5 : Int32) * (S.1 50 11)) + (2 : Int32))).toNatClampNeg (0 : Int32)) 56 ((((5 : Int32) * (S.1 50 11)) + (3 : Int32))).toNatClampNeg (0 : Int32)) 56 ((((5 : Int32) * (S.1 50 11)) + (4 : Int32))).toNatClampNeg (nI k)) 50 11 ((S.1 50 11) + (1 : Int32))))))))) ∧ (¬ (¬ (S.1 50 11) = (5 : Int32)) → Q (-4 : Int32) S)) : w111 (nI k) (nI u) (nI c) S Q :=
  w102_n (m := 5) (by decide) (by decide) (fun _ _ _ => ⟨fun c => absurd c (by decide), fun _ => w102_n (m := 9) (by decide) (by decide) (fun _ _ _ => ⟨fun c => absurd c (by decide), fun _ => w105_ok (fun _ _ _ => ⟨fun _ => hQ, fun c => absurd (by decide) c⟩) (fun h => absurd rfl (h c hc))⟩) (fun h => absurd rfl (h u hu))⟩) (fun h => absurd rfl (h k hk))
theorem life_g (S1 : ri_H) {L : Nat} (hL : L < 5) (l : S1.1 50 11 = nI L) (k u c : Nat) : gm (ri_wi (ri_wi (ri_wi (ri_wi (ri_wi (ri_wi S1 56 (5 * L + 0) (nI u)) 56 (5 * L + 1) (nI c)) 56 (5 * L + 2) 0) 56 (5 * L + 3) 0) 56 (5 * L + 4) (nI k)) 50 11 (nI (L + 1))) = p_com (gm S1) (nI k) (nI u) (nI c) := by
  rw [gm_f11, gm_row4 _ hL, gm_row3 _ hL, gm_row2 _ hL, gm_row1 _ hL, gm_row0 _ hL]
  unfold p_com
  have l9 : gm S1 0 9 = nI L := l
  rw [l9, pu_nI _ _ hL (by decide), pu_nI _ _ hL (by decide), pu_nI _ _ hL (by decide), pu_nI _ _ hL (by decide), pu_nI _ _ hL (by decide), nI_1]
  funext o
  match o with
  | 0 => rfl
  | 1 => rfl
  | 2 => rfl
  | 3 => rfl
  | 4 => rfl
  | 5 => rfl
  | 6 => rfl
  | 7 => rfl
  | o + 8 => simp [gset]
theorem gwd_com {g : Nat → Nat → Int32} (h : gwd T g) {L k u c : Nat} (hL : L < 5) (l9 : g 0 9 = nI L) (hk : k < 6) (hu : u < 10) (hc : c < 12) : gwd T (p_com g (nI k) (nI u) (nI c)) := by
  unfold p_com
  rw [l9, pu_nI _ _ hL (by decide), pu_nI _ _ hL (by decide), pu_nI _ _ hL (by decide), pu_nI _ _ hL (by decide), pu_nI _ _ hL (by decide), nI_1]
  have h1 := gwd_3 (j := L) h hk
  have h2 := gwd_4 (j := L) h1 hu
  have h3 := gwd_5 (j := L) h2 hc
  have h4 := gwd_6 (j := L) h3 (x := 0) (by decide)
  have h5 := gwd_7 (j := L) h4 (v := 0) (by decide)
  exact gwd_l h5 (v := L + 1) (by omega)
/-- one comes, in both -/
theorem f_life {Q : Int32 → Int32 → ri_H → Prop} (h : RR S) (hQ : ∀ r S', RR S' → (r = -2 ∨ r = -4 ∨ ∃ L, L < 5 ∧ r = nI L) → Q r r S') : w48 a b g S (fun r S1 => w111 a b g S1 (fun r2 S2 => Q r r2 S2)) := by
  have h0 := h
  obtain ⟨T, τ, h⟩ := h
  obtain ⟨L, hL, l1, l2, l3⟩ := R_L h
  unfold w48
  rcases wi_d a (n := 6) (by decide) with ⟨k, hk, rfl, hw⟩ | ⟨hw, hne⟩
  · rcases wi_d b (n := 10) (by decide) with ⟨u, hu, rfl, hw2⟩ | ⟨hw2, hne2⟩
    · rcases wi_d g (n := 12) (by decide) with ⟨c, hc, rfl, hw3⟩ | ⟨hw3, hne3⟩
      · have hw : wi (nI k) 6 = 1 := hw
        have hw2 : wi (nI u) 10 = 1 := hw2
        have hw3 : wi (nI c) 12 = 1 := hw3
        rw [hw, hw2, hw3]
        refine ⟨fun c => absurd c (by decide), fun _ => ⟨fun c => absurd c (by decide), fun _ => ⟨fun _ => w35_ok (fun hlt S1 a1 e1 => ?_) (fun hge => ?_), fun c => absurd (by decide) c⟩⟩⟩
        · rw [R_w h, l3] at hlt ⊢
          have hL5 : L < 5 := (nI_ltI (b := 5) (by omega) (by decide)).mp hlt
          have a1 : ag CW S S1 := ag_mo a1 (by decide)
          have g1 : gm S1 = gm S := gm_ag a1 (by decide)
          have l2' : S1.1 50 11 = nI L := by rw [gm_9, g1]; exact l3
          refine lm_in hk hu hc ?_
          rw [l2', x5_1, x5_2, x5_3, x5_4, x5_0, nI_clamp (by omega), nI_clamp (by omega), nI_clamp (by omega), nI_clamp (by omega), nI_clamp (by omega), nI_1, nI_pred]
          refine ⟨fun _ => ⟨vp_in_nI (by omega) (by decide), vp_in_nI (by omega) (by decide), vp_in_nI (by omega) (by decide), vp_in_nI (by omega) (by decide), vp_in_nI (by omega) (by decide), ?_⟩, fun c => absurd (Decidable.not_not.mp c) (fun e => ?_)⟩
          · have gg := life_g S1 hL5 l2' k u c
            rw [Nat.add_zero] at gg
            refine hQ _ _ ⟨T, τ, R_wr h a1 (am_f (am_wi (am_wi (am_wi (am_wi (am_wi (am_refl _ _ _) (by decide) (by decide)) (by decide) (by decide)) (by decide) (by decide)) (by decide) (by decide)) (by decide) (by decide)) (by decide)) ?_ ?_⟩ (Or.inr (Or.inr ⟨L, hL5, rfl⟩))
            · rw [gg, g1, ← R_w h, ← e1]
              exact gw_am (X := MX) (F := MG) (by decide) (am_f (am_wi (am_wi (am_wi (am_wi (am_wi (am_refl _ _ _) (by decide) (by decide)) (by decide) (by decide)) (by decide) (by decide)) (by decide) (by decide)) (by decide) (by decide)) (by decide)) (in8 (by decide))
            · rw [gg, g1]
              exact gwd_com h.1.2 hL5 l3 hk hu hc
          · have := nI_inj (b := 5) (by omega) (by decide) e
            omega
        · rw [R_w h, l3] at hge
          have hL5 : L = 5 := by
            rcases Nat.lt_or_ge L 5 with q | q
            · exact absurd (nI_lt q (by decide)) hge
            · omega
          refine lm_in hk hu hc ?_
          rw [l2]
          subst hL5
          exact ⟨fun c => absurd rfl c, fun _ => hQ _ _ h0 (Or.inr (Or.inl rfl))⟩
      · have hw : wi (nI k) 6 = 1 := hw
        have hw2 : wi (nI u) 10 = 1 := hw2
        have hw3 : wi g 12 = 0 := hw3
        rw [hw, hw2, hw3]
        refine ⟨fun c => absurd c (by decide), fun _ => ⟨fun c => absurd c (by decide), fun _ => ⟨fun c => absurd rfl c, fun _ => ?_⟩⟩⟩
        exact w102_n (m := 5) (by decide) (by decide) (fun _ _ _ => ⟨fun c => absurd c (by decide), fun _ => w102_n (m := 9) (by decide) (by decide) (fun _ _ _ => ⟨fun c => absurd c (by decide), fun _ => w105_ok (fun j hj e => absurd e (hne3 j hj)) (fun _ => ⟨fun c => absurd rfl c, fun _ => hQ _ _ h0 (Or.inl rfl)⟩)⟩) (fun h => absurd rfl (h u hu))⟩) (fun h => absurd rfl (h k hk))
    · have hw : wi (nI k) 6 = 1 := hw
      have hw2 : wi b 10 = 0 := hw2
      rw [hw, hw2]
      refine ⟨fun c => absurd c (by decide), fun _ => ⟨fun _ => ?_, fun c => absurd rfl c⟩⟩
      exact w102_n (m := 5) (by decide) (by decide) (fun _ _ _ => ⟨fun c => absurd c (by decide), fun _ => w102_n (m := 9) (by decide) (by decide) (fun j hj e => absurd e (hne2 j hj)) (fun _ => ⟨fun _ => hQ _ _ h0 (Or.inl rfl), fun c => absurd rfl c⟩)⟩) (fun h => absurd rfl (h k hk))
  · have hw : wi a 6 = 0 := hw
    rw [hw]
    refine ⟨fun _ => ?_, fun c => absurd rfl c⟩
    exact w102_n (m := 5) (by decide) (by decide) (fun j hj e => absurd e (hne j hj)) (fun _ => ⟨fun _ => hQ _ _ h0 (Or.inl rfl), fun c => absurd rfl c⟩)
end LIFE
section FEED
variable {a : Int32} {S : ri_H} {Q : Int32 → Int32 → ri_H → Prop}
theorem f_feed (h : RR S) (hQ : ∀ r S', RR S' → Q r r S') : w51 a S (fun r S1 => w115 a S1 (fun r2 S2 => Q r r2 S2)) := by
  have h0 := h
  obtain ⟨T, τ, h1, h2, h3, h4, h5⟩ := h
  unfold w51 w0
  rcases wi_d a (n := 256) (by decide) with ⟨k, hk, rfl, hw⟩ | ⟨hw, hne⟩
  · refine ⟨fun c => absurd c (nI_pos (by omega)), fun _ => ⟨fun _ => ?_, fun c => absurd (nI_le (b := 255) (by omega) (by decide)) c⟩⟩
    obtain ⟨n, hn, e1, e2, e3⟩ := h3
    rw [e1]
    refine ⟨fun c => ?_, fun c => ?_⟩
    · have hlt : n < 160 := (nI_ltI (b := 160) (by omega) (by decide)).mp c
      rw [pu_nI _ _ hlt (by decide), nI_1]
      have a1 : ag [5, 6] S (ri_wi (ri_wr S 6 (upd (S.1 6) n (nI k))) 5 4 (nI (n + 1))) := ag_wi (ag_wr (ag_refl _ _) (by decide)) (by decide)
      refine w102_n (m := 255) (by decide) (by decide) (fun _ _ _ => ⟨fun _ => ?_, fun c => absurd (by decide) c⟩) (fun hh => absurd rfl (hh k hk))
      have e6 : (ri_wi (ri_wr S 6 (upd (S.1 6) n (nI k))) 5 4 (nI (n + 1))).1 50 6 = nI n := by
        rw [(a1 50 (by decide)).1]
        exact e2
      rw [e6, nI_clamp (by omega), nI_1]
      refine ⟨fun _ => ⟨vp_in_nI hlt (by decide), ?_⟩, fun c => absurd (Decidable.not_not.mp c) (fun e => ?_)⟩
      · have b1 : am [53] [6] (ri_wi (ri_wr S 6 (upd (S.1 6) n (nI k))) 5 4 (nI (n + 1))) (ri_wi (ri_wi (ri_wi (ri_wr S 6 (upd (S.1 6) n (nI k))) 5 4 (nI (n + 1))) 53 n (nI k)) 50 6 (nI (n + 1))) := am_f (am_wi (am_refl _ _ _) (by decide) (by decide)) (by decide)
        refine hQ _ _ ⟨T, τ, rW_k h1 (kW_tr (kW_ag a1 (by decide) (by decide)) ⟨gw_am (by decide) b1 (in8 (by decide)), gm_am b1 (by decide) (by decide) (by decide) (by decide) (by decide) (by decide)⟩), rT_k h2 (kT_tr (kT_ag a1 (by decide)) (kT_am b1 (by decide) (by decide))), ⟨n + 1, by omega, ?_, ?_, fun j hj => ?_⟩, rI_k h4 (kI_tr (kI_ag a1 (by decide) (by decide)) (kI_am b1 (by decide) (by decide) (by decide))), rS_k h5 (kS_tr (kS_ag a1 (by decide) (by decide)) (kS_am b1 (by decide) (by decide)))⟩
        · rw [ri_wi_o _ _ _ (by decide), ri_wi_o _ _ _ (by decide), ri_wi_1, pk_us]
        · rw [ri_wi_1, pk_us]
        · rw [ri_wi_o (c := 53) _ _ _ (by decide), ri_wi_1, ri_wi_o (c := 53) _ _ _ (by decide), ri_wr_o (c := 53) _ _ (by decide), ri_wi_o (c := 6) _ _ _ (by decide), ri_wi_o (c := 6) _ _ _ (by decide), ri_wi_o (c := 6) _ _ _ (by decide), ri_wr_1]
          by_cases ej : j = n
          · subst ej
            rw [pk_us, pk_us]
            exact ⟨rfl, nI_pos' (by omega)⟩
          · rw [pk_un ej, pk_un ej]
            exact e3 j (by omega)
      · have := nI_inj (b := 160) (by omega) (by decide) e
        omega
    · have h160 : n = 160 := by
        rcases Nat.lt_or_ge n 160 with q | q
        · exact absurd (nI_lt q (by decide)) c
        · omega
      refine w102_n (m := 255) (by decide) (by decide) (fun _ _ _ => ⟨fun _ => ?_, fun c => absurd (by decide) c⟩) (fun hh => absurd rfl (hh k hk))
      rw [e2]
      subst h160
      exact ⟨fun c => absurd rfl c, fun _ => hQ _ _ h0⟩
  · have fin : w115 a S (fun r2 S2 => Q (-2) r2 S2) := w102_n (m := 255) (by decide) (by decide) (fun j hj e => absurd e (hne j hj)) (fun _ => ⟨fun c => absurd rfl c, fun _ => hQ _ _ h0⟩)
    refine ⟨fun _ => fin, fun c => ⟨fun c2 => ?_, fun _ => fin⟩⟩
    obtain ⟨v, hv, e⟩ := nI_of2 (x := a) (M := 255) (n := 255) rfl c c2
    exact absurd e (hne v (by omega))
end FEED
section TEXT
variable {S : ri_H} {Q : Int32 → Int32 → ri_H → Prop} {T : Nat} {τ : Int32 → Int32 → List Int32}
theorem gwd_T {T' : Nat} {g : Nat → Nat → Int32} (h : gwd T g) (hT : T ≤ T') : gwd T' g := by
  obtain ⟨h1, h2, r, hr, e⟩ := h
  exact ⟨h1, h2, r, by omega, e⟩
def txp (τ : Int32 → Int32 → List Int32) (T : Nat) (c0 c1 c2 : List Int32) : Int32 → Int32 → List Int32 := fun a b => if a = nI T then (if b = 0 then c0 else if b = 1 then c1 else c2) else τ a b
theorem txp_0 {c0 c1 c2 : List Int32} : txp τ T c0 c1 c2 (nI T) 0 = c0 := by
  unfold txp
  rw [if_pos rfl, if_pos rfl]
theorem txp_1 {c0 c1 c2 : List Int32} : txp τ T c0 c1 c2 (nI T) 1 = c1 := by
  unfold txp
  rw [if_pos rfl, if_neg (by decide), if_pos rfl]
theorem txp_2 {c0 c1 c2 : List Int32} : txp τ T c0 c1 c2 (nI T) 2 = c2 := by
  unfold txp
  rw [if_pos rfl, if_neg (by decide), if_neg (by decide)]
theorem txp_n {c0 c1 c2 : List Int32} {a b : Int32} (h : ¬ a = nI T) : txp τ T c0 c1 c2 a b = τ a b := by
  unfold txp
  rw [if_neg h]
/-- the tape is laid behind the texts -/
theorem l14_ok {Q : Int32 → ri_H → Prop} {S0 : ri_H} {n : Nat} (hT : T < 6) (hn : n ≤ 160) (e3 : S0.1 50 3 = nI T) (e6 : S0.1 50 6 = nI n) (hQ : ∀ S', am [51, 52] [6] S0 S' → (∀ j, j < n → S'.1 51 (160 * T + j) = S0.1 53 j) → (∀ j, j < 160 * T → S'.1 51 j = S0.1 51 j) → S'.1 52 = upd (S0.1 52) T (nI n) → S'.1 50 6 = 0 → w161 (nI T) 0 S' (fun (r2 : Int32) (S1 : ri_H) => (((S1.1 50 25) = 0 → Q (((S1.1 50 3) + (1 : Int32)) - (1 : Int32)) (ri_wi S1 50 3 ((S1.1 50 3) + (1 : Int32)))) ∧ (¬ (S1.1 50 25) = 0 → Q ((-100 : Int32) - (S1.1 50 26)) S1)))) : ∀ d k S, k + d = n → am [51] [] S0 S → (∀ j, j < k → S.1 51 (160 * T + j) = S0.1 53 j) → (∀ j, j < 160 * T → S.1 51 j = S0.1 51 j) → w162_l14 Q (d + 1) (nI k) S
  | 0, k, S, hk, ha, h1, h2 => by
    have hk' : k = n := hk
    subst hk'
    unfold w162_l14
    rw [(ha.2 6 (by decide)).1, e6, (ha.2 3 (by decide)).1, e3, nI_clamp (by omega)]
    refine ⟨fun _ => ⟨vp_in_nI hT (by decide), hQ _ (am_f (am_wi (am_mo ha (by decide) (by decide)) (by decide) (by decide)) (by decide)) (fun j hj => ?_) (fun j hj => ?_) ?_ ?_⟩, fun c => absurd (nI_le (Nat.le_refl _) (by omega)) c⟩
    · rw [ri_wi_o _ _ _ (by decide), ri_wi_o _ _ _ (by decide)]
      exact h1 j hj
    · rw [ri_wi_o _ _ _ (by decide), ri_wi_o _ _ _ (by decide)]
      exact h2 j hj
    · rw [ri_wi_o _ _ _ (by decide), ri_wi_1, (ha.1 52 (by decide) (by decide)).1]
    · rw [ri_wi_1, pk_us]
  | d + 1, k, S, hk, ha, h1, h2 => by
    unfold w162_l14
    rw [(ha.2 6 (by decide)).1, e6, (ha.2 3 (by decide)).1, e3, show (160 : Int32) * nI T = nI (160 * T) from pk_mul 160 T, nI_add, nI_clamp (n := 160 * T + k) (by omega), nI_clamp (n := k) (by omega), nI_1]
    refine ⟨fun c => absurd c (nI_ge (by omega) (by omega)), fun _ => ⟨vp_in_nI (by omega) (by decide), vp_in_nI (by omega) (by decide), ?_⟩⟩
    refine l14_ok hT hn e3 e6 hQ d (k + 1) _ (by omega) (am_wi ha (by decide) (by decide)) (fun j hj => ?_) (fun j hj => ?_)
    · rw [ri_wi_1]
      by_cases ej : j = k
      · subst ej
        rw [pk_us, (ha.1 53 (by decide) (by decide)).1]
      · rw [pk_un (by omega)]
        exact h1 j (by omega)
    · rw [ri_wi_1, pk_un (by omega)]
      exact h2 j hj
theorem f_text (h : RR S) (hQ : ∀ r S', RR S' → Q r r S') : w52 S (fun r S1 => w162 S1 (fun r2 S2 => Q r r2 S2)) := by
  have h0 := h
  obtain ⟨T, τ, h1, h2, h3, h4, h5⟩ := h
  obtain ⟨t1, t2, t3, t4, t5⟩ := h2
  obtain ⟨n, hn, e1, e2, e3⟩ := h3
  unfold w52
  rw [t3]
  refine ⟨fun c => ?_, fun c => ?_⟩
  · have hT : T < 6 := (nI_ltI (b := 6) (by omega) (by decide)).mp c
    have old : ∀ S1 S2, xfr T S S1 → am [51, 52] [3, 6, 18, 19, 20, 21, 22, 23, 24, 25, 26] S1 S2 → (∀ j, j < 160 * T → S2.1 51 j = S1.1 51 j) → (∀ a, a < T → S2.1 52 a = S1.1 52 a) → ∀ a, a < T → ttx S2 a (τ (nI a) 0) (τ (nI a) 1) (τ (nI a) 2) ∧ mtx S2 a (τ (nI a) 0) (τ (nI a) 1) (τ (nI a) 2) := by
      intro S1 S2 x a2 b1 b2 a ha
      obtain ⟨p, f, m, q1, q2, q3, q4⟩ := t5 a ha
      constructor
      · obtain ⟨p0, p1, p2, p3, p4, p5, p6⟩ := p
        have c2 : ∀ j, j < 160 * T → S2.1 2 j = S.1 2 j := fun j hj => by
          rw [(a2.1 2 (by decide) (by decide)).1]
          exact x.2.1 j hj
        have c3 : ∀ j, j < 4 * T → S2.1 3 j = S.1 3 j := fun j hj => by
          rw [(a2.1 3 (by decide) (by decide)).1]
          exact x.2.2 j hj
        refine ⟨(c3 _ (by omega)).trans p0, (c3 _ (by omega)).trans p1, (c3 _ (by omega)).trans p2, (c3 _ (by omega)).trans p3, fun j hj => ?_, p5, p6⟩
        rw [c2 _ (by omega)]
        exact p4 j hj
      · refine ⟨f, m, q1, ?_, fun j hj => ?_, q4⟩
        · rw [b2 a ha, (x.1 52 (by decide)).1]
          exact q2
        · rw [b1 _ (by omega), (x.1 51 (by decide)).1]
          exact q3 j hj
    have keep : ∀ S1 S2, xfr T S S1 → am [51, 52] [3, 6, 18, 19, 20, 21, 22, 23, 24, 25, 26] S1 S2 → rW T S2 ∧ rI T S2 ∧ rS S2 := by
      intro S1 S2 x a2
      have x1 : ag [1, 2, 3, 5, 7, 8, 9] S S1 := x.1
      exact ⟨rW_k h1 (kW_tr (kW_ag x1 (by decide) (by decide)) ⟨gw_am (by decide) a2 (in8 (by decide)), gm_am a2 (by decide) (by decide) (by decide) (by decide) (by decide) (by decide)⟩), rI_k h4 (kI_tr (kI_ag x1 (by decide) (by decide)) (kI_am a2 (by decide) (by decide) (by decide))), rS_k h5 (kS_tr (kS_ag x1 (by decide) (by decide)) (kS_am a2 (by decide) (by decide)))⟩
    have tape : ∀ S1 S2, S1.1 5 4 = 0 → am [51, 52] [3, 6, 18, 19, 20, 21, 22, 23, 24, 25, 26] S1 S2 → S2.1 50 6 = 0 → rP S2 := by
      intro S1 S2 z a2 z2
      refine ⟨0, by omega, ?_, z2, fun j hj => absurd hj (Nat.not_lt_zero j)⟩
      rw [(a2.1 5 (by decide) (by decide)).1]
      exact z
    have model : ∀ S1, xfr T S S1 → ∀ Qm : Int32 → ri_H → Prop, (∀ x S2, ptx (S.1 6) n = .inl x → am [51, 52] [3, 6, 18, 19, 20, 21, 22, 23, 24, 25, 26] S1 S2 → (∀ j, j < 160 * T → S2.1 51 j = S1.1 51 j) → (∀ a, a < T → S2.1 52 a = S1.1 52 a) → S2.1 50 6 = 0 → S2.1 50 3 = nI T → Qm (-100 - nI x) S2) → (∀ c0 c1 c2 S2, ptx (S.1 6) n = .inr (c0, c1, c2) → am [51, 52] [3, 6, 18, 19, 20, 21, 22, 23, 24, 25, 26] S1 S2 → (∀ j, j < 160 * T → S2.1 51 j = S1.1 51 j) → (∀ a, a < T → S2.1 52 a = S1.1 52 a) → S2.1 50 6 = 0 → S2.1 50 3 = nI (T + 1) → mtx S2 T c0 c1 c2 → Qm (nI T) S2) → w162 S1 Qm := by
      intro S1 x Qm k1 k2
      have x50 := (x.1 50 (by decide)).1
      have x53 := (x.1 53 (by decide)).1
      have m3 : S1.1 50 3 = nI T := by rw [x50]; exact t4
      have m6 : S1.1 50 6 = nI n := by rw [x50]; exact e2
      unfold w162
      rw [m3]
      refine ⟨fun _ => ⟨n + 1, l14_ok hT hn m3 m6 (fun S2 a2 b1 b2 b3 b4 => ?_) n 0 S1 (by omega) (am_refl _ _ _) (fun j hj => absurd hj (Nat.not_lt_zero j)) (fun j hj => rfl)⟩, fun c => absurd (Decidable.not_not.mp c) (fun e => ?_)⟩
      · have b5 : ∀ j, j < n → S2.1 51 (160 * T + j) = S.1 6 j ∧ 0 ≤ S.1 6 j := fun j hj => by
          rw [b1 j hj, x53]
          exact e3 j hj
        have b6 : S2.1 52 T = nI n := by rw [b3, pk_us]
        have m3' : S2.1 50 3 = nI T := (a2.2 3 (by decide)).1.trans m3
        have up : ∀ a, a < T → ∀ S3 : ri_H, S3.1 52 = S2.1 52 → S3.1 52 a = S1.1 52 a := fun a ha S3 e => by
          rw [e, b3, pk_un (by omega)]
        refine w161_ok (f := S.1 6) hT hn b6 b5 (fun y v S3 ey a3 c25 c26 => ⟨fun c => absurd c (by rw [c25]; decide), fun _ => ?_⟩) (fun c0 c1 c2 S3 ey a3 c25 => ⟨fun _ => ?_, fun c => absurd c25 c⟩)
        · rw [c26]
          refine k1 y S3 ey (am_tr (am_mo a2 (by decide) (by decide)) (am_mo a3 (by decide) (by decide))) (fun j hj => ?_) (fun a ha => up a ha S3 (a3.1 52 (by decide) (by decide)).1) ((a3.2 6 (by decide)).1.trans b4) ((a3.2 3 (by decide)).1.trans m3')
          rw [(a3.1 51 (by decide) (by decide)).1]
          exact b2 j hj
        · have m3'' : S3.1 50 3 = nI T := (a3.2 3 (by decide)).1.trans m3'
          rw [m3'', nI_1, nI_pred]
          refine k2 c0 c1 c2 _ ey (am_f (am_tr (am_mo a2 (by decide) (by decide)) (am_mo a3 (by decide) (by decide))) (by decide)) (fun j hj => ?_) (fun a ha => up a ha _ ?_) ?_ ?_ ⟨S.1 6, n, hn, ?_, fun j hj => ?_, ey⟩
          · rw [ri_wi_o _ _ _ (by decide), (a3.1 51 (by decide) (by decide)).1]
            exact b2 j hj
          · rw [ri_wi_o _ _ _ (by decide)]
            exact (a3.1 52 (by decide) (by decide)).1
          · rw [ri_wi_1, pk_un (by decide)]
            exact (a3.2 6 (by decide)).1.trans b4
          · rw [ri_wi_1, pk_us]
          · rw [ri_wi_o _ _ _ (by decide), (a3.1 52 (by decide) (by decide)).1]
            exact b6
          · rw [ri_wi_o _ _ _ (by decide), (a3.1 51 (by decide) (by decide)).1]
            exact b5 j hj
      · have := nI_inj (b := 6) (by omega) (by decide) e
        omega
    refine w1x_ok hT t3 hn e1 (fun x S1 ep hx xf q13 q54 => ⟨fun _ => ?_, fun c => absurd (Decidable.not_not.mp c) (fun e => nI_pos (n := x) (by omega) (by rw [e]; decide))⟩) (fun c0 c1 c2 S1 ep xf q13 q54 q => ⟨fun c => absurd rfl c, fun _ => ?_⟩)
    · refine model S1 xf _ (fun y S2 ey a2 b1 b2 b3 b4 => ?_) (fun c0 c1 c2 S2 ey => ?_)
      · rw [ep] at ey
        cases ey
        obtain ⟨k1, k2, k3⟩ := keep S1 S2 xf a2
        refine hQ _ S2 ⟨T, τ, k1, ⟨t1, t2, ?_, b4, old S1 S2 xf a2 b1 b2⟩, tape S1 S2 q54 a2 b3, k2, k3⟩
        rw [(a2.1 1 (by decide) (by decide)).1]
        exact q13
      · rw [ep] at ey
        cases ey
    · rw [q13, nI_pred]
      refine model S1 xf _ (fun y S2 ey => ?_) (fun d0 d1 d2 S2 ey a2 b1 b2 b3 b4 b5 => ?_)
      · rw [ep] at ey
        cases ey
      · rw [ep] at ey
        cases ey
        obtain ⟨k1, k2, k3⟩ := keep S1 S2 xf a2
        refine hQ _ S2 ⟨T + 1, txp τ T c0 c1 c2, ⟨k1.1, gwd_T k1.2 (by omega)⟩, ⟨by omega, by omega, ?_, b4, fun a ha => ?_⟩, tape S1 S2 q54 a2 b3, ?_, k3⟩
        · rw [(a2.1 1 (by decide) (by decide)).1]
          exact q13
        · by_cases ea : a = T
          · subst ea
            rw [txp_0, txp_1, txp_2]
            refine ⟨?_, b5⟩
            unfold ttx at q ⊢
            rw [(a2.1 3 (by decide) (by decide)).1, (a2.1 2 (by decide) (by decide)).1]
            exact q
          · have hne : ¬ nI a = nI T := fun e => ea (nI_inj (by omega) (by omega) e)
            rw [txp_n hne, txp_n hne, txp_n hne]
            exact old S1 S2 xf a2 b1 b2 a (by omega)
        · rcases k2 with k | k
          · exact Or.inl k
          · exact Or.inr ⟨k.1, k.2.1, gwd_T k.2.2 (by omega)⟩
  · have hT : T = 6 := by
      rcases Nat.lt_or_ge T 6 with q | q
      · exact absurd (nI_lt q (by decide)) c
      · omega
    subst hT
    show w162 S (fun r2 S2 => Q (-4) r2 S2)
    unfold w162
    rw [t4]
    exact ⟨fun c => absurd rfl c, fun _ => hQ _ _ h0⟩
end TEXT
