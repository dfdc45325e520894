/-! the model: a year -/
theorem nI_b {x : Int32} (h : 0 ≤ x.toInt) : ∃ j : Nat, (j : Int) = x.toInt ∧ x = nI j := by
  refine ⟨x.toInt.toNat, by omega, ?_⟩
  have := Int32.toInt_lt x
  apply Int32.toInt_inj.mp
  rw [nI_toInt (by omega)]
  omega
theorem rem2 (x : Nat) (hx : x < 2 ^ 31) : nI x - nI x / 2 * 2 = nI (x % 2) := pk_rem (d := 2) hx (by decide) (by decide)
theorem nI_01 (x : Nat) : nI (x % 2) = 0 ∨ nI (x % 2) = 1 := by
  rcases (show x % 2 = 0 ∨ x % 2 = 1 by omega) with h | h
  · rw [h]
    exact Or.inl rfl
  · rw [h]
    exact Or.inr rfl
def b01 (x : Int32) : Prop := x = 0 ∨ x = 1
theorem b01_sub {x : Int32} (h : b01 x) : b01 (1 - x) := by
  rcases h with rfl | rfl
  · exact Or.inr rfl
  · exact Or.inl rfl
theorem p_tk_01 {τ : Int32 → Int32 → List Int32} {g : Nat → Nat → Int32} {p : Nat} (hp : p < 5) (h4 : rg (g 4) 5 10) : b01 (p_tk τ g (nI p)) := by
  have b1 : ∀ x, b01 x → b01 (p_r1 g (nI p) x) := by
    intro x hx
    unfold p_r1
    split
    · exact hx
    · split
      · exact Or.inr rfl
      · exact hx
  have b2 : ∀ x, b01 x → b01 (p_r2 g (nI p) x) := by
    intro x hx
    unfold p_r2
    split
    · split
      · exact hx
      · exact b01_sub hx
    · exact hx
  unfold p_tk
  split
  · obtain ⟨v, hv, e⟩ := h4 p hp
    rw [it_nI _ hp (by decide), e, rem2 v (by omega)]
    exact nI_01 v
  · split
    · exact Or.inl rfl
    · split
      · split
        · exact Or.inl rfl
        · exact Or.inr rfl
      · refine b2 _ (b1 _ ?_)
        split
        · exact Or.inl rfl
        · exact Or.inr rfl
theorem hd_rg (v : Int32) {a b : Nat} (hab : a ≤ b) (hb : b < 2 ^ 31) : ∃ j, a ≤ j ∧ j ≤ b ∧ hd v (nI a) (nI b) = nI j := by
  have h := hd_int v (nI a) (nI b) (nI_le hab hb)
  rw [nI_toInt (by omega), nI_toInt hb] at h
  obtain ⟨j, hj, e⟩ := nI_b (x := hd v (nI a) (nI b)) (by rw [h]; split <;> (try split) <;> omega)
  refine ⟨j, ?_, ?_, e⟩
  · rw [h] at hj
    split at hj <;> (try split at hj) <;> omega
  · rw [h] at hj
    split at hj <;> (try split at hj) <;> omega
theorem p_pt_rg (τ : Int32 → Int32 → List Int32) (g : Nat → Nat → Int32) (one : Int32) : ∃ j, j ≤ 99 ∧ p_pt τ g one = nI j := by
  unfold p_pt
  split
  · exact ⟨0, by decide, rfl⟩
  · obtain ⟨j, _, h2, e⟩ := hd_rg (if it (g 3) 5 one = 1 then 2 * p_mx (tl τ (g 0 11) 1 (p_nm g one (p_bj g (it (g 5) 5 one))))
      else if it (g 3) 5 one = 2 then p_mx (tl τ (g 0 11) 1 (p_nm g one (p_bj g (it (g 5) 5 one)))) + 1
      else if it (g 3) 5 one = 3 then 2 * p_mx (tl τ (g 0 11) 1 (p_nm g one (p_bj g (it (g 5) 5 one)))) + it (g 4) 5 one
      else if it (g 3) 5 one = 4 then (p_mx (tl τ (g 0 11) 1 (p_nm g one (p_bj g (it (g 5) 5 one)))) + 1) / 2
      else p_mx (tl τ (g 0 11) 1 (p_nm g one (p_bj g (it (g 5) 5 one))))) (a := 0) (b := 99) (by decide) (by decide)
    exact ⟨j, h2, e⟩
theorem gm_wi55 (S : ri_H) {k : Nat} (hk : k < 24) (v : Int32) : gm (ri_wi S 55 k v) = gset (gm S) 2 (upd (gm S 2) k v) := by
  funext o
  unfold gset
  by_cases h : o = 2
  · subst h
    rw [if_pos rfl]
    funext j
    show nz 24 ((ri_wi S 55 k v).1 55) j = upd (nz 24 (S.1 55)) k v j
    rw [ri_wi_1]
    unfold nz upd
    by_cases e : j = k
    · subst e
      simp [hk]
    · simp [e]
  · rw [if_neg h]
    unfold gm
    rw [ri_wi_o S (c := 54) (k := 55) _ _ (by decide), ri_wi_o S (c := 56) (k := 55) _ _ (by decide), ri_wi_o S (c := 50) (k := 55) _ _ (by decide)]
    simp only [if_neg h]
theorem gm_wi56_5 (S : ri_H) {p : Nat} (hp : p < 5) (v : Int32) : gm (ri_wi S 56 (5 * p + 1) v) = gset (gm S) 5 (upd (gm S 5) p v) := by
  funext o
  unfold gset
  by_cases h : o = 5
  · subst h
    rw [if_pos rfl]
    funext j
    show nz 5 (fun q => (ri_wi S 56 (5 * p + 1) v).1 56 (5 * q + 1)) j = upd (nz 5 (fun q => S.1 56 (5 * q + 1))) p v j
    rw [ri_wi_1]
    unfold nz upd
    by_cases e : j = p
    · subst e
      simp [hp]
    · have : ¬ (5 * j = 5 * p) := by omega
      simp [e, this]
  · rw [if_neg h]
    unfold gm
    rw [ri_wi_o S (c := 54) (k := 56) _ _ (by decide), ri_wi_o S (c := 55) (k := 56) _ _ (by decide), ri_wi_o S (c := 50) (k := 56) _ _ (by decide), ri_wi_1]
    have n4 : (fun q => upd (S.1 56) (5 * p + 1) v (5 * q + 4)) = fun q => S.1 56 (5 * q + 4) := by
      funext q
      unfold upd
      rw [if_neg (by omega)]
    have n0 : (fun q => upd (S.1 56) (5 * p + 1) v (5 * q)) = fun q => S.1 56 (5 * q) := by
      funext q
      unfold upd
      rw [if_neg (by omega)]
    have n2 : (fun q => upd (S.1 56) (5 * p + 1) v (5 * q + 2)) = fun q => S.1 56 (5 * q + 2) := by
      funext q
      unfold upd
      rw [if_neg (by omega)]
    have n3 : (fun q => upd (S.1 56) (5 * p + 1) v (5 * q + 3)) = fun q => S.1 56 (5 * q + 3) := by
      funext q
      unfold upd
      rw [if_neg (by omega)]
    rw [n4, n0, n2, n3]
    simp only [if_neg h]
theorem p_min_hd {a b : Nat} (ha : a < 1000) (hb : b ≤ 99) : hd (nI a + nI b) 0 999 = p_min (nI a + nI b) := by
  rw [nI_add]
  have h := hd_int (nI (a + b)) 0 999 (by decide)
  have e0 : (0 : Int32).toInt = 0 := rfl
  have e9 : (999 : Int32).toInt = 999 := rfl
  rw [nI_toInt (by omega), e0, e9] at h
  apply Int32.toInt_inj.mp
  unfold p_min
  by_cases c : nI (a + b) < 999
  · have c' := Int32.lt_iff_toInt_lt.mp c
    rw [nI_toInt (by omega), e9] at c'
    rw [if_pos c, h, nI_toInt (by omega)]
    split <;> (try split) <;> omega
  · have c' : ¬ (nI (a + b)).toInt < (999 : Int32).toInt := fun e => c (Int32.lt_iff_toInt_lt.mpr e)
    rw [nI_toInt (by omega), e9] at c'
    rw [if_neg c, h, e9]
    split <;> (try split) <;> omega
theorem b01_nI {x : Int32} (h : b01 x) : ∃ j : Nat, j ≤ 1 ∧ x = nI j := by
  rcases h with rfl | rfl
  · exact ⟨0, by decide, rfl⟩
  · exact ⟨1, by decide, rfl⟩
theorem b01_xor {x b : Int32} (h : b01 x) (hb : b01 b) : b01 (x ^^^ b) := by
  rcases h with rfl | rfl <;> rcases hb with rfl | rfl
  · exact Or.inl rfl
  · exact Or.inr rfl
  · exact Or.inr rfl
  · exact Or.inl rfl
theorem w170_ok {S : ri_H} {p : Nat} {τ : Int32 → Int32 → List Int32} {b : Int32} {Q : ri_H → Prop} (hp : p < 5) (h2 : rg (gm S 2) 24 1000) (h4 : rg (gm S 4) 5 10) (h5 : rg (gm S 5) 5 12) (hb : b01 b) (hm : mt S τ (gm S 0 11)) (hQ : ∀ S', am [55, 56] F1 S S' → gm S' = p_y1 τ (gm S) (nI p) (p_tk τ (gm S) (nI p) ^^^ b) → Q S') : w170 (nI p) b S Q := by
  unfold w170
  refine w165_ok hp h5 hm (fun S1 a1 => ?_)
  have g1 := gm_F1 a1
  refine w166_ok hp (by rw [g1]; exact h5) (by rw [g1]; exact mt_am hm a1 (by decide) (by decide)) (fun S3 a3 => ?_)
  have g3 : gm S3 = gm S := (gm_F1 a3).trans g1
  rw [g1]
  have a13 := am_tr a1 a3
  refine w114_ok hp ?_
  rw [g3]
  obtain ⟨c, hc, ec⟩ := h5 p hp
  obtain ⟨r, hr, er⟩ := b01_nI (b01_xor (p_tk_01 (τ := τ) hp h4) hb)
  obtain ⟨v, hv, ev⟩ := p_pt_rg τ (gm S) (nI p)
  have hat : it (gm S 5) 5 (nI p) = nI c := by rw [it_nI _ hp (by decide), ec]
  unfold p_y1 at hQ
  rw [er, ev, hat, x2_1, x2_0, pk_sub (by omega), nI_add, it_nI _ (show 2 * c + 1 - r < 24 by omega) (by decide), it_nI _ (show 2 * c + r < 24 by omega) (by decide), pu_nI _ _ (show 2 * c + 1 - r < 24 by omega) (by decide), pu_nI _ _ hp (by decide)] at hQ
  rw [er, ev, ec, x2_1, x2_0, pk_sub (by omega), nI_add, x5_1, nI_clamp (by omega), nI_clamp (by omega), nI_clamp (by omega), gm_2 (by omega), g3]
  obtain ⟨u, hu, eu⟩ := h2 (2 * c + 1 - r) (by omega)
  rw [eu] at hQ ⊢
  refine ⟨vp_in_nI (by omega) (by decide), w103_ok (by decide) ⟨vp_in_nI (by omega) (by decide), vp_in_nI (by omega) (by decide), vp_in_nI (by omega) (by decide), ?_⟩⟩
  rw [gm_1 (by omega), g3, p_min_hd hu hv]
  refine hQ _ (am_wi (am_wi (am_mo a13 (fun c hc => absurd hc (by simp)) (fun c hc => hc)) (by decide) (by decide)) (by decide) (by decide)) ?_
  rw [gm_wi56_5 _ hp, gm_wi55 _ (by omega), g3]
  rfl
theorem rg_upd {f : Nat → Int32} {n m k v : Nat} (h : rg f n m) (hv : v < m) : rg (upd f k (nI v)) n m := by
  intro j hj
  unfold upd
  by_cases e : j = k
  · exact ⟨v, hv, if_pos e⟩
  · obtain ⟨u, hu, eu⟩ := h j hj
    exact ⟨u, hu, (if_neg e).trans eu⟩
theorem p_min_rg {a b : Nat} (ha : a < 1000) (hb : b ≤ 99) : ∃ j, j < 1000 ∧ p_min (nI a + nI b) = nI j := by
  rw [← p_min_hd ha hb]
  obtain ⟨j, _, h, e⟩ := hd_rg (nI a + nI b) (a := 0) (b := 999) (by decide) (by decide)
  exact ⟨j, by omega, e⟩
theorem gok_y1 {τ : Int32 → Int32 → List Int32} {g : Nat → Nat → Int32} {p : Nat} {road : Int32} (hg : gok g) (hp : p < 5) (hr : b01 road) : gok (p_y1 τ g (nI p) road) := by
  obtain ⟨k0, k1, k2, k3, k4, k5, k6, k7⟩ := hg
  obtain ⟨c, hc, ec⟩ := k5 p hp
  obtain ⟨r, hr, er⟩ := b01_nI hr
  obtain ⟨v, hv, ev⟩ := p_pt_rg τ g (nI p)
  have hat : it (g 5) 5 (nI p) = nI c := by rw [it_nI _ hp (by decide), ec]
  unfold p_y1
  rw [er, ev, hat, x2_1, x2_0, pk_sub (by omega), nI_add, it_nI _ (show 2 * c + 1 - r < 24 by omega) (by decide), it_nI _ (show 2 * c + r < 24 by omega) (by decide), pu_nI _ _ (show 2 * c + 1 - r < 24 by omega) (by decide), pu_nI _ _ hp (by decide)]
  obtain ⟨u, hu, eu⟩ := k2 (2 * c + 1 - r) (by omega)
  obtain ⟨w, hw, ew⟩ := k1 (2 * c + r) (by omega)
  rw [eu, ew]
  obtain ⟨m, hm, em⟩ := p_min_rg hu hv
  rw [em]
  exact ⟨k0, k1, rg_upd k2 hm, k3, k4, rg_upd k5 hw, k6, k7⟩
theorem gok_yl {τ : Int32 → Int32 → List Int32} {g : Nat → Nat → Int32} {t : Int32} (hg : gok g) : ∀ k, k ≤ 5 → gok (p_yl τ t g k)
  | 0, _ => hg
  | k + 1, hk => by
    have ih := gok_yl (τ := τ) (t := t) hg k (by omega)
    refine gok_y1 ih (by omega) ?_
    have h01 : b01 (p_tk τ (p_yl τ t g k) (nI k)) := p_tk_01 (by omega) ih.2.2.2.2.1
    unfold p_rt
    split
    · exact b01_sub h01
    · exact h01
theorem gok_0 {g : Nat → Nat → Int32} {f : Nat → Int32} (hg : gok g) (hf : f 9 = g 0 9) : gok (gset g 0 f) := by
  obtain ⟨⟨L, hL, eL⟩, k⟩ := hg
  exact ⟨⟨L, hL, hf.trans eL⟩, k⟩
theorem gok_yr {τ : Int32 → Int32 → List Int32} {g : Nat → Nat → Int32} {t : Int32} (hg : gok g) : gok (p_yr τ t g) := by
  unfold p_yr p_ny
  refine gok_0 (gok_yl hg _ ?_) rfl
  obtain ⟨⟨L, hL, eL⟩, k⟩ := hg
  rw [eL, nI_clamp (by omega)]
  exact hL
theorem gm_ny (S : ri_H) (v : Int32) : gm (ri_wi S 50 7 v) = gset (gm S) 0 (upd (gm S 0) 10 v) := by
  funext o
  unfold gset
  by_cases h : o = 0
  · subst h
    rw [if_pos rfl]
    funext j
    show (if j = 9 then (ri_wi S 50 7 v).1 50 11 else if j = 10 then (ri_wi S 50 7 v).1 50 7 else if j = 11 then (ri_wi S 50 7 v).1 50 4 else 0) = upd (fun j => if j = 9 then S.1 50 11 else if j = 10 then S.1 50 7 else if j = 11 then S.1 50 4 else 0) 10 v j
    rw [ri_wi_1]
    unfold upd
    by_cases e : j = 10
    · subst e
      simp
    · simp [e]
  · rw [if_neg h]
    unfold gm
    rw [ri_wi_o S (c := 54) (k := 50) _ _ (by decide), ri_wi_o S (c := 55) (k := 50) _ _ (by decide), ri_wi_o S (c := 56) (k := 50) _ _ (by decide)]
    simp only [if_neg h]
theorem w171_loop {S : ri_H} {τ : Int32 → Int32 → List Int32} {Q : ri_H → Prop} {L : Nat} (hg : gok (gm S)) (hL : gm S 0 9 = nI L) (hL5 : L ≤ 5) (hm : mt S τ (gm S 0 11)) (hQ : ∀ S', am [55, 56] (7 :: F1) S S' → gm S' = p_yr τ (-1) (gm S) → Q S') : ∀ (d k : Nat) (S' : ri_H), k + d = L → am [55, 56] (7 :: F1) S S' → gm S' = p_yl τ (-1) (gm S) k → w171_l2 Q (d + 1) (nI k) S'
  | 0, k, S', hk, ha, hgm => by
    have hk' : k = L := hk
    subst hk'
    unfold w171_l2
    rw [gm_9, gm_10, hgm, p_yl_0, hL]
    refine ⟨fun _ => hQ _ (am_f ha (by decide)) ?_, fun c => absurd (nI_le (Nat.le_refl _) (by omega)) c⟩
    rw [gm_ny, hgm]
    unfold p_yr p_ny
    rw [hL, nI_clamp (by omega), p_yl_0]
  | d + 1, k, S', hk, ha, hgm => by
    unfold w171_l2
    have hgk : gok (gm S') := by
      rw [hgm]
      exact gok_yl hg k (by omega)
    have h11 : gm S' 0 11 = gm S 0 11 := by rw [hgm, p_yl_0]
    rw [gm_9, nI_1]
    refine ⟨fun c => absurd c (by rw [hgm, p_yl_0, hL]; exact nI_ge (by omega) (by omega)), fun _ => ?_⟩
    refine w170_ok (τ := τ) (by omega) hgk.2.2.1 hgk.2.2.2.2.1 hgk.2.2.2.2.2.1 (Or.inl rfl) (by rw [h11]; exact mt_am hm ha (by decide) (by decide)) (fun S2 a2 e2 => ?_)
    refine w171_loop hg hL hL5 hm hQ d (k + 1) S2 (by omega) (am_tr ha (am_mo a2 (fun c hc => hc) (fun c hc => List.mem_cons_of_mem _ hc))) ?_
    rw [e2, hgm]
    have hx : ∀ x : Int32, b01 x → x ^^^ 0 = x := by
      intro x hx
      rcases hx with rfl | rfl <;> rfl
    have h01 : b01 (p_tk τ (p_yl τ (-1) (gm S) k) (nI k)) := p_tk_01 (by omega) (by rw [← hgm]; exact hgk.2.2.2.2.1)
    rw [hx _ h01]
    show _ = p_y1 τ (p_yl τ (-1) (gm S) k) (nI k) (p_rt τ (p_yl τ (-1) (gm S) k) (-1) (nI k))
    unfold p_rt
    rw [if_neg (fun h => nI_pos (n := k) (by omega) (by rw [h]; decide))]
theorem w171_ok {S : ri_H} {τ : Int32 → Int32 → List Int32} {Q : ri_H → Prop} (hg : gok (gm S)) (hm : mt S τ (gm S 0 11)) (hQ : ∀ S', am [55, 56] (7 :: F1) S S' → gm S' = p_yr τ (-1) (gm S) → Q S') : w171 S Q := by
  obtain ⟨L, hL5, hL⟩ := hg.1
  exact ⟨L + 1, w171_loop hg hL hL5 hm hQ L 0 S (by omega) (am_refl _ _ _) rfl⟩
theorem w169_loop {S : ri_H} {Q : Int32 → ri_H → Prop} (hQ : Q (p_all (gm S)) S) : ∀ (d k : Nat), k + d = 24 → w169_l4 Q (d + 1) (p_sum (gm S 2) k) (nI k) S
  | 0, k, hk => by
    have hk' : k = 24 := hk
    subst hk'
    unfold w169_l4
    exact ⟨fun _ => hQ, fun c => absurd (by decide) c⟩
  | d + 1, k, hk => by
    unfold w169_l4
    rw [nI_1, nI_clamp (by omega), gm_2 (by omega)]
    refine ⟨fun c => absurd c (nI_ge (a := k) (b := 24) (by omega) (by decide)), fun _ => ⟨vp_in_nI (by omega) (by decide), ?_⟩⟩
    exact w169_loop hQ d (k + 1) (by omega)
theorem w169_ok {S : ri_H} {Q : Int32 → ri_H → Prop} (hQ : Q (p_all (gm S)) S) : w169 S Q := ⟨25, w169_loop hQ 24 0 rfl⟩
