/-! fewest, the model -/
def MZ : List Nat := [55, 56, 57, 60, 61]
section FEWM
variable {S S0 : ri_H} {T : Nat} {τ : Int32 → Int32 → List Int32}
theorem w175_x {Q : ri_H → Prop} {X F : List Nat} (ha : am X F S0 S) (h54 : 54 ∉ X) (h4 : 4 ∉ F) (h11 : 11 ∉ F) (hs : asd S0 S) (hQ : ∀ S', am [55, 56] [7] S S' → gm S' = gm S0 → Q S') : w175 S Q := by
  refine w175_ok (fun S1 a h1 h2 h3 => hQ S1 a ?_)
  obtain ⟨s1, s2, s3⟩ := hs
  refine gm_like ?_ (fun j hj => (h1 j hj).trans (s1 j hj)) (fun j hj => (h2 j hj).trans (s2 j hj)) ?_ (h3.trans s3) ?_
  · rw [(a.1 54 (by decide) (by decide)).1, (ha.1 54 h54 (by decide)).1]
  · rw [(a.2 4 (by decide)).1, (ha.2 4 h4).1]
  · rw [(a.2 11 (by decide)).1, (ha.2 11 h11).1]
/-- a state on the way -/
def fS (S0 S : ri_H) (y p : Nat) : Prop := am MZ (7 :: F1) S0 S ∧ asd S0 S ∧ wl2 (gm S0) y p (gm S)
theorem asd_k {S1 : ri_H} (h : asd S0 S) (e : S1.1 57 = S.1 57) : asd S0 S1 := by
  obtain ⟨s1, s2, s3⟩ := h
  unfold asd
  rw [e]
  exact ⟨s1, s2, s3⟩
theorem fS_wi {y p k j : Nat} {v : Int32} (h : fS S0 S y p) (hk : k = 60 ∨ k = 61) : fS S0 (ri_wi S k j v) y p := by
  obtain ⟨a, s, w⟩ := h
  rcases hk with rfl | rfl
  · exact ⟨am_wi a (by decide) (by decide), asd_k s (by rw [ri_wi_o _ _ _ (by decide)]), by
      rw [gm_ag (ag_wi (ag_refl [60] S) (by decide)) (by decide)]
      exact w⟩
  · exact ⟨am_wi a (by decide) (by decide), asd_k s (by rw [ri_wi_o _ _ _ (by decide)]), by
      rw [gm_ag (ag_wi (ag_refl [61] S) (by decide)) (by decide)]
      exact w⟩
section YEAR
variable {Q : Int32 → ri_H → Prop} {K : Int32 → Int32 → Int32 → Int32 → ri_H → Prop} {y p t n k : Nat} {v : Nat → Nat}
theorem l217_ok {u : Nat → Nat} (hK : ∀ S', fS S0 S' (y + 1) p → (∀ j, j < 12 → S'.1 60 j = nI (u j)) → K (nI p) (nI t) (nI n) (nI (k + 1)) S') : ∀ d i S, i + d = 12 → fS S0 S y p → (∀ j, j < 12 → S.1 61 j = nI (u j)) → (∀ j, j < i → S.1 60 j = nI (u j)) → w182_l217 K Q (d + 1) (nI p) (nI t) (nI n) (nI k) (nI i) S := by
  intro d
  induction d with
  | zero =>
    intro i S hi h h61 h60
    have hi' : i = 12 := hi
    subst hi'
    unfold w182_l217
    rw [nI_1 k]
    refine ⟨fun _ => hK _ ⟨am_f h.1 (by decide), asd_k h.2.1 (by rw [ri_wi_o _ _ _ (by decide)]), ?_⟩ (fun j hj => ?_), fun c => absurd (show (12 : Int32) ≤ nI 12 by decide) c⟩
    · rw [gm_ny, gm_10]
      exact wl2_y h.2.2
    · rw [ri_wi_o _ _ _ (by decide)]
      exact h60 j hj
  | succ d ih =>
    intro i S hi h h61 h60
    unfold w182_l217
    rw [nI_clamp (n := i) (by omega), nI_1 i]
    refine ⟨fun c => absurd c (nI_ge (b := 12) (by omega) (by decide)), fun _ => ⟨vp_in_nI (by omega) (by decide), vp_in_nI (by omega) (by decide), ?_⟩⟩
    refine ih (i + 1) _ (by omega) (fS_wi h (Or.inl rfl)) (fun j hj => ?_) (fun j hj => ?_)
    · rw [ri_wi_o _ _ _ (by decide)]
      exact h61 j hj
    · rw [ri_wi_1]
      by_cases e : j = i
      · subst e
        rw [pk_us]
        exact h61 j (by omega)
      · rw [pk_un e]
        exact h60 j (by omega)
theorem l112_ok (hp : p < 5) (hg : gok (gm S0)) (hm : mt S0 τ (gm S0 0 11)) (hv : ∀ j, v j ≤ 1000) (hK : ∀ S', fS S0 S' (y + 1) p → (∀ j, j < 12 → S'.1 60 j = nI (p_mj (gm S0) (p_rr τ (gm S0) y p) v 24 j)) → K (nI p) (nI t) (nI n) (nI (k + 1)) S') : ∀ d i S, i + d = 24 → fS S0 S y p → (∀ j, j < 12 → S.1 60 j = nI (v j)) → (∀ j, j < 12 → S.1 61 j = nI (p_mj (gm S0) (p_rr τ (gm S0) y p) v i j)) → w182_l112 K Q (d + 1) (nI p) (nI t) (nI n) (nI k) (nI i) S := by
  intro d
  induction d with
  | zero =>
    intro i S hi h h60 h61
    have hi' : i = 24 := hi
    subst hi'
    unfold w182_l112
    exact ⟨fun _ => ⟨13, l217_ok hK 12 0 S rfl h h61 (fun j hj => absurd hj (Nat.not_lt_zero j))⟩, fun c => absurd (show (24 : Int32) ≤ nI 24 by decide) c⟩
  | succ d ih =>
    intro i S hi h h60 h61
    unfold w182_l112
    have hi24 : i < 24 := by omega
    obtain ⟨k0, k1, k2, k3, k4, k5, k6, k7⟩ := hg
    obtain ⟨t1, t2⟩ := to_lt k1 hi24
    have hh := half_lt hi24
    have hge : ¬ (24 : Int32) ≤ nI i := nI_ge (b := 24) hi24 (by decide)
    rw [x5_1, h2 hi24, nI_clamp (n := 5 * p + 1) (by omega), nI_clamp (n := i / 2) (by omega), h60 _ hh]
    have e1 : gm (ri_wi S 56 (5 * p + 1) (nI (i / 2))) = wld (gm S0) y p (i / 2) := by
      rw [gm_row1 _ hp, wl2_wld h.2.2]
    have a1 : am MZ (7 :: F1) S0 (ri_wi S 56 (5 * p + 1) (nI (i / 2))) := am_wi h.1 (by decide) (by decide)
    have e11 : gm (ri_wi S 56 (5 * p + 1) (nI (i / 2))) 0 11 = gm S0 0 11 := by
      rw [e1]
      show upd (gm S0 0) 10 (nI y) 11 = _
      rw [pk_un (by decide)]
    have r5 : rg (gm (ri_wi S 56 (5 * p + 1) (nI (i / 2))) 5) 5 12 := by
      rw [e1]
      show rg (upd (gm S0 5) p (nI (i / 2))) 5 12
      exact rg_upd k5 hh
    obtain ⟨r1, r2⟩ := rr_01 (τ := τ) (g := gm S0) (y := y) (p := p) (c := i / 2) hp k4
    refine ⟨fun c => absurd c hge, fun _ => ⟨vp_in_nI (by omega) (by decide), vp_in_nI hh (by decide), w165_ok hp r5 (by rw [e11]; exact mt_am hm a1 (by decide) (by decide)) (fun S9 a9 => ?_)⟩⟩
    rw [e1, r2, ← h2 hi24, rem2 i (by omega)]
    have f9 : fS S0 S9 y p := by
      refine ⟨am_tr a1 (am_mo a9 (by decide) (by decide)), asd_k h.2.1 ?_, ?_⟩
      · rw [(a9.1 57 (by decide) (by decide)).1, ri_wi_o _ _ _ (by decide)]
      · rw [gm_F1 a9, e1]
        exact wl2_of_wld
    have g60 : ∀ j, j < 12 → S9.1 60 j = nI (v j) := fun j hj => by
      rw [(a9.1 60 (by decide) (by decide)).1, ri_wi_o _ _ _ (by decide)]
      exact h60 j hj
    have g61 : ∀ j, j < 12 → S9.1 61 j = nI (p_mj (gm S0) (p_rr τ (gm S0) y p) v i j) := fun j hj => by
      rw [(a9.1 61 (by decide) (by decide)).1, ri_wi_o _ _ _ (by decide)]
      exact h61 j hj
    have e54 : S9.1 54 i = nI (p_to (gm S0) i) := by
      rw [(f9.1.1 54 (by decide) (by decide)).1, gm_1 hi24, t2]
    have mle := mj_le (gm S0) (p_rr τ (gm S0) y p) v i
    have step : ∀ w : Nat, w = (if p_rr τ (gm S0) y p (i / 2) = i % 2 then 0 else 1) → ∀ x : Int32, x = nI (v (i / 2) + w) → (vp_in (nI i) 24 ∧ (vp_in (nI i) 24 ∧ (vp_in (S9.1 54 (nI i).toNatClampNeg) 12 ∧ (((S9.1 61 ((S9.1 54 (nI i).toNatClampNeg)).toNatClampNeg) ≤ x → (vp_in (nI i) 24 ∧ (vp_in (S9.1 54 (nI i).toNatClampNeg) 12 ∧ w182_b207 K (fun x1 x2 x3 x4 x5 S => w182_l112 K Q (d + 1) x1 x2 x3 x4 x5 S) Q (nI p) (nI t) (nI n) (nI k) (nI i) (S9.1 61 ((S9.1 54 (nI i).toNatClampNeg)).toNatClampNeg) (S9.1 54 (nI i).toNatClampNeg) S9))) ∧ (¬ (S9.1 61 ((S9.1 54 (nI i).toNatClampNeg)).toNatClampNeg) ≤ x → w182_b207 K (fun x1 x2 x3 x4 x5 S => w182_l112 K Q (d + 1) x1 x2 x3 x4 x5 S) Q (nI p) (nI t) (nI n) (nI k) (nI i) x (S9.1 54 (nI i).toNatClampNeg) S9))))) := by
      intro w ew x ex
      have wle : w ≤ 1 := by
        rw [ew]
        split <;> omega
      have vle := hv (i / 2)
      have mto := mle (p_to (gm S0) i)
      rw [nI_clamp (n := i) (by omega), e54, nI_clamp (n := p_to (gm S0) i) (by omega), g61 _ t1, ex]
      unfold w182_b207
      rw [nI_clamp (n := p_to (gm S0) i) (by omega), nI_1 i]
      have nx : ∀ z : Nat, z = (if v (i / 2) + w < p_mj (gm S0) (p_rr τ (gm S0) y p) v i (p_to (gm S0) i) then v (i / 2) + w else p_mj (gm S0) (p_rr τ (gm S0) y p) v i (p_to (gm S0) i)) → w182_l112 K Q (d + 1) (nI p) (nI t) (nI n) (nI k) (nI (i + 1)) (ri_wi S9 61 (p_to (gm S0) i) (nI z)) := by
        intro z ez
        refine ih (i + 1) _ (by omega) (fS_wi f9 (Or.inr rfl)) (fun j hj => ?_) (fun j hj => ?_)
        · rw [ri_wi_o _ _ _ (by decide)]
          exact g60 j hj
        · rw [ri_wi_1]
          show _ = nI (les (p_mj (gm S0) (p_rr τ (gm S0) y p) v i) (p_to (gm S0) i) (v (i / 2) + (if p_rr τ (gm S0) y p (i / 2) = i % 2 then 0 else 1)) j)
          rw [← ew]
          unfold les upn
          by_cases e : j = p_to (gm S0) i
          · rw [e, pk_us, if_pos rfl, ez]
          · rw [pk_un e, if_neg e]
            exact g61 j hj
      refine ⟨vp_in_nI hi24 (by decide), vp_in_nI hi24 (by decide), vp_in_nI t1 (by decide), fun c => ⟨vp_in_nI hi24 (by decide), vp_in_nI t1 (by decide), vp_in_nI t1 (by decide), nx _ ?_⟩, fun c => ⟨vp_in_nI t1 (by decide), nx _ ?_⟩⟩
      · have := (nI_leI (by omega) (by omega)).mp c
        rw [if_neg (by omega)]
      · rw [if_pos]
        rcases Nat.lt_or_ge (v (i / 2) + w) (p_mj (gm S0) (p_rr τ (gm S0) y p) v i (p_to (gm S0) i)) with q | q
        · exact q
        · exact absurd (nI_le q (by omega)) c
    refine ⟨fun c => step 1 ?_ _ (nI_1 _), fun c => step 0 ?_ _ (nI_add _ 0)⟩
    · rw [if_neg (fun e => c (by rw [e]))]
    · rw [if_pos (nI_inj (by omega) (by omega) (Decidable.not_not.mp c))]
theorem l86f_ok (hp : p < 5) (hg : gok (gm S0)) (hm : mt S0 τ (gm S0 0 11)) (hv : ∀ j, v j ≤ 1000) (hK : ∀ S', fS S0 S' (y + 1) p → (∀ j, j < 12 → S'.1 60 j = nI (p_mj (gm S0) (p_rr τ (gm S0) y p) v 24 j)) → K (nI p) (nI t) (nI n) (nI (k + 1)) S') : ∀ d i S, i + d = 12 → fS S0 S y p → (∀ j, j < 12 → S.1 60 j = nI (v j)) → (∀ j, j < i → S.1 61 j = 1000) → w182_l86 K Q (d + 1) (nI p) (nI t) (nI n) (nI k) (nI i) S := by
  intro d
  induction d with
  | zero =>
    intro i S hi h h60 h61
    have hi' : i = 12 := hi
    subst hi'
    unfold w182_l86
    exact ⟨fun _ => ⟨25, l112_ok hp hg hm hv hK 24 0 S rfl h h60 h61⟩, fun c => absurd (show (12 : Int32) ≤ nI 12 by decide) c⟩
  | succ d ih =>
    intro i S hi h h60 h61
    unfold w182_l86
    rw [nI_clamp (n := i) (by omega), nI_1 i]
    refine ⟨fun c => absurd c (nI_ge (b := 12) (by omega) (by decide)), fun _ => ⟨vp_in_nI (by omega) (by decide), ?_⟩⟩
    refine ih (i + 1) _ (by omega) (fS_wi h (Or.inr rfl)) (fun j hj => ?_) (fun j hj => ?_)
    · rw [ri_wi_o _ _ _ (by decide)]
      exact h60 j hj
    · rw [ri_wi_1]
      by_cases e : j = i
      · rw [e, pk_us]
      · rw [pk_un e]
        exact h61 j (by omega)
end YEAR
theorem l77_ok {Q : Int32 → ri_H → Prop} {y p c0 t n : Nat} (hp : p < 5) (ht : t < 12) (hn : n ≤ 30) (hg : gok (gm S0)) (hm : mt S0 τ (gm S0 0 11)) (hQ : ∀ S', am MX MF S0 S' → gm S' = gm S0 → Q (enc (p_fw τ (gm S0) y p c0 n t)) S') : ∀ d k S, k + d = n → fS S0 S (y + k) p → (∀ j, j < 12 → S.1 60 j = nI (p_fw τ (gm S0) y p c0 k j)) → w182_l77 Q (d + 1) (nI p) (nI t) (nI n) (nI k) S
  | 0, k, S, hk, h, h60 => by
    have hk' : k = n := hk
    subst hk'
    unfold w182_l77
    refine ⟨fun _ => w175_x h.1 (by decide) (by decide) (by decide) h.2.1 (fun S8 a8 e8 => ?_), fun c => absurd (nI_le (Nat.le_refl _) (by omega)) c⟩
    have q := hQ S8 (am_tr (am_mo h.1 (by decide) (by decide)) (am_mo a8 (by decide) (by decide))) e8
    have e60 : S8.1 60 t = nI (p_fw τ (gm S0) y p c0 k t) := by
      rw [(a8.1 60 (by decide) (by decide)).1]
      exact h60 t ht
    rw [nI_clamp (by omega), e60]
    have b := fw_bnd τ (gm S0) y p c0 k t
    unfold enc at q
    refine ⟨vp_in_nI ht (by decide), fun c => ⟨vp_in_nI ht (by decide), ?_⟩, fun c => ?_⟩
    · have := (nI_ltI (b := 1000) (by omega) (by decide)).mp c
      rw [if_neg (by omega)] at q
      exact q
    · rcases b with b | b
      · rw [if_pos b] at q
        exact q
      · exact absurd (nI_lt (b := 1000) (by omega) (by decide)) c
  | d + 1, k, S, hk, h, h60 => by
    unfold w182_l77
    refine ⟨fun c => absurd c (nI_ge (by omega) (by omega)), fun _ => ⟨13, ?_⟩⟩
    refine l86f_ok hp hg hm (fun j => ?_) (fun S' f' h' => l77_ok hp ht hn hg hm hQ d (k + 1) S' (by omega) f' h') 12 0 S rfl h h60 (fun j hj => absurd hj (Nat.not_lt_zero j))
    have := fw_bnd τ (gm S0) y p c0 k j
    omega
theorem l37_ok {Q : Int32 → ri_H → Prop} {y p c0 t n : Nat} (hp : p < 5) (ht : t < 12) (hn : n ≤ 30) (hg : gok (gm S0)) (hm : mt S0 τ (gm S0 0 11)) (hc0 : gm S0 5 p = nI c0) (hc : c0 < 12) (hQ : ∀ S', am MX MF S0 S' → gm S' = gm S0 → Q (enc (p_fw τ (gm S0) y p c0 n t)) S') : ∀ d k S, k + d = 12 → fS S0 S y p → gm S = gm S0 → (∀ j, j < k → S.1 60 j = nI (p_fw τ (gm S0) y p c0 0 j)) → w182_l37 Q (d + 1) (nI p) (nI t) (nI n) (nI k) S
  | 0, k, S, hk, h, e, h60 => by
    have hk' : k = 12 := hk
    subst hk'
    unfold w182_l37
    exact ⟨fun _ => ⟨n + 1, l77_ok hp ht hn hg hm hQ n 0 S (by omega) h h60⟩, fun c => absurd (show (12 : Int32) ≤ nI 12 by decide) c⟩
  | d + 1, k, S, hk, h, e, h60 => by
    unfold w182_l37 w182_b67
    rw [nI_clamp (n := k) (by omega), nI_1 k]
    have go : ∀ v : Int32, v = nI (if k = c0 then 0 else 1000) → w182_l37 Q (d + 1) (nI p) (nI t) (nI n) (nI (k + 1)) (ri_wi S 60 k v) := by
      intro v ev
      refine l37_ok hp ht hn hg hm hc0 hc hQ d (k + 1) _ (by omega) (fS_wi h (Or.inl rfl)) ?_ (fun j hj => ?_)
      · rw [gm_ag (ag_wi (ag_refl [60] S) (by decide)) (by decide)]
        exact e
      · rw [ri_wi_1]
        by_cases ej : j = k
        · subst ej
          rw [pk_us]
          exact ev
        · rw [pk_un ej]
          exact h60 j (by omega)
    refine ⟨fun c => absurd c (nI_ge (b := 12) (by omega) (by decide)), fun _ => w114_ok hp ?_⟩
    rw [e, hc0]
    refine ⟨fun c => ⟨vp_in_nI (by omega) (by decide), go _ ?_⟩, fun c => ⟨vp_in_nI (by omega) (by decide), go _ ?_⟩⟩
    · rw [if_neg (fun q => c (by rw [q]))]
      rfl
    · rw [if_pos (nI_inj (by omega) (by omega) (Decidable.not_not.mp c))]
      rfl
theorem f_fewest {a b g : Int32} {Q : Int32 → Int32 → ri_H → Prop} (h : RR S) (hQ : ∀ r S', RR S' → Q r r S') : w60 a b g S (fun r S1 => w182 a b g S1 (fun r2 S2 => Q r r2 S2)) := by
  have h0 := h
  obtain ⟨T, τ, h⟩ := h
  obtain ⟨L, hL, l1, l2, l3⟩ := R_L h
  have bad : ((∀ p, p < L → a ≠ nI p) ∨ (∀ j, j < 12 → b ≠ nI j) ∨ (∀ n, n < 31 → g ≠ nI n)) → w182 a b g S (fun r2 S2 => Q (-2) r2 S2) := by
    intro hb
    unfold w182
    refine w104_ok hL l2 (fun p hp ep => ⟨fun c => absurd c (by decide), fun _ => w105_ok (fun j hj eb => ⟨fun c => absurd c (by decide), fun _ => w102_n (m := 30) (by decide) (by decide) (fun n hn en => ?_) (fun _ => ⟨fun c => absurd rfl c, fun _ => hQ _ _ h0⟩)⟩) (fun _ => ⟨fun _ => hQ _ _ h0, fun c => absurd rfl c⟩)⟩) (fun _ => ⟨fun _ => hQ _ _ h0, fun c => absurd rfl c⟩)
    rcases hb with q | q | q
    · exact absurd ep (q p hp)
    · exact absurd eb (q j hj)
    · exact absurd en (q n hn)
  unfold w60
  rw [l1]
  rcases wi_d a (n := L) (by omega) with ⟨p, hp, rfl, hw⟩ | ⟨hw, hne⟩
  · rcases wi_d b (n := 12) (by decide) with ⟨t, ht, rfl, hw2⟩ | ⟨hw2, hne2⟩
    · have hw2 : wi (nI t) 12 = 1 := hw2
      rw [hw, hw2]
      refine ⟨fun c => absurd c (by decide), fun _ => ⟨fun c => absurd c (by decide), fun _ => ⟨fun c => bad (Or.inr (Or.inr (fun n hn e => nI_pos (n := n) (by omega) (by rw [← e]; exact c)))), fun c => ⟨fun c2 => ?_, fun c2 => bad (Or.inr (Or.inr (fun n hn e => c2 (by rw [e]; exact nI_le (b := 30) (by omega) (by decide)))))⟩⟩⟩⟩
      obtain ⟨n, hn, rfl⟩ := nI_of2 (x := g) (M := 30) (n := 30) rfl c c2
      have p5 : p < 5 := by omega
      obtain ⟨c0, hc0, ec0⟩ := (R_ok h).2.2.2.2.2.1 p p5
      obtain ⟨y, hy, ey⟩ := h.1.2.2.1
      refine w33_t (fun S1 a1 e1 => ⟨n + 1, ?_⟩)
      have e15 : it (S1.1 15) 5 (nI p) = nI c0 := by
        rw [gw_it S1 10 5 5 rfl (by decide), gw_ag a1 (in8 (by decide)), R_w h, it_nI _ p5 (by decide), ec0]
      rw [e15, pu_nI _ _ hc0 (by decide)]
      refine l74_ok (τ := τ) (g := gm S) (y := y) (c0 := c0) p5 hy ht hn h.2.1 h.1.2 (fun S2 a2 => ?_) n 0 _ (by omega) (ag_wr (ag_wr a1 (by decide)) (by decide)) ?_ (fun j hj => ?_)
      · have h2 := R_c h a2
        have g2 := c_gm a2
        have l2' : S2.1 50 11 = nI L := by rw [gm_9, g2]; exact l3
        show w182 (nI p) (nI t) (nI n) S2 (fun r2 S3 => Q (enc (p_fw τ (gm S) y p c0 n t)) r2 S3)
        unfold w182
        refine w104_ok hL l2' (fun _ _ _ => ⟨fun c => absurd c (by decide), fun _ => w105_ok (fun _ _ _ => ⟨fun c => absurd c (by decide), fun _ => w102_n (m := 30) (by decide) (by decide) (fun _ _ _ => ⟨fun _ => w174_m (τ := τ) (fun S3 m3 => ⟨13, ?_⟩), fun c => absurd (by decide) c⟩) (fun hh => absurd rfl (hh n (by omega)))⟩) (fun hh => absurd rfl (hh t ht))⟩) (fun hh => absurd rfl (hh p hp))
        have eg3 : gm S3 = gm S2 := m3.2.2
        refine l37_ok (S0 := S2) (y := y) p5 ht hn (R_ok h2) (R_mt h2) (by rw [g2]; exact ec0) hc0 (fun S4 a4 e4 => ?_) 12 0 S3 rfl ⟨am_mo m3.1 (by decide) (by decide), m3.2.1, ?_⟩ eg3 (fun j hj => absurd hj (Nat.not_lt_zero j))
        · rw [g2]
          exact hQ _ _ ⟨T, τ, R_q h2 (ag_refl _ _) a4 e4⟩
        · rw [eg3]
          exact ⟨by rw [g2]; exact ey, fun _ _ => rfl, fun _ _ => rfl, fun _ _ _ => rfl⟩
      · rw [gw_ag (ag_wr (ag_wr (ag_refl [48] S1) (by decide)) (by decide)) (in8 (by decide)), e1, R_w h]
        exact ⟨ey, fun _ _ => rfl, fun _ _ => rfl, fun _ _ _ => rfl⟩
      · rw [ri_wr_1]
        show _ = enc (if j = c0 then 0 else 1000)
        by_cases e : j = c0
        · rw [e, pk_us, if_pos rfl]
          rfl
        · rw [pk_un e, if_neg e]
          unfold fil
          rw [if_pos hj]
          rfl
    · have hw2 : wi b 12 = 0 := hw2
      rw [hw, hw2]
      exact ⟨fun c => absurd c (by decide), fun _ => ⟨fun _ => bad (Or.inr (Or.inl hne2)), fun c => absurd rfl c⟩⟩
  · rw [hw]
    exact ⟨fun _ => bad (Or.inl hne), fun c => absurd rfl c⟩
end FEWM
