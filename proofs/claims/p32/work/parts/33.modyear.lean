/-! the model: a year -/
theorem nI_b {x : Int32} (h : 0 ≤ x.toInt) : ∃ j : Nat, (j : Int) = x.toInt ∧ x = nI j := by
  refine ⟨x.toInt.toNat, by omega, ?_⟩
  have := Int32.toInt_lt x
  apply Int32.toInt_inj.mp
  rw [nI_toInt (by omega)]
  omega
theorem rem2 (x : Nat) (hx : x < 2 ^ 31) : nI x - nI x / 2 * 2 = nI (x % 2) := pk_rem (d := 2) hx (by decide) (by decide)
theorem nI_01 (x : Nat) : nI (x % 2) = 0 ∨ nI (x % 2) = 1 := by
  rcases (show x % 2 = 0 ∨ x % 2 = 1 by omega) with h | h
  · rw [h]
    exact Or.inl rfl
  · rw [h]
    exact Or.inr rfl
def b01 (x : Int32) : Prop := x = 0 ∨ x = 1
theorem b01_sub {x : Int32} (h : b01 x) : b01 (1 - x) := by
  rcases h with rfl | rfl
  · exact Or.inr rfl
  · exact Or.inl rfl
theorem p_tk_01 {τ : Int32 → Int32 → List Int32} {g : Nat → Nat → Int32} {p : Nat} (hp : p < 5) (h4 : rg (g 4) 5 10) : b01 (p_tk τ g (nI p)) := by
  have b1 : ∀ x, b01 x → b01 (p_r1 g (nI p) x) := by
    intro x hx
    unfold p_r1
    split
    · exact hx
    · split
      · exact Or.inr rfl
      · exact hx
  have b2 : ∀ x, b01 x → b01 (p_r2 g (nI p) x) := by
    intro x hx
    unfold p_r2
    split
    · split
      · exact hx
      · exact b01_sub hx
    · exact hx
  unfold p_tk
  split
  · obtain ⟨v, hv, e⟩ := h4 p hp
    rw [it_nI _ hp (by decide), e, rem2 v (by omega)]
    exact nI_01 v
  · split
    · exact Or.inl rfl
    · split
      · split
        · exact Or.inl rfl
        · exact Or.inr rfl
      · refine b2 _ (b1 _ ?_)
        split
        · exact Or.inl rfl
        · exact Or.inr rfl
theorem hd_rg (v : Int32) {a b : Nat} (hab : a ≤ b) (hb : b < 2 ^ 31) : ∃ j, a ≤ j ∧ j ≤ b ∧ hd v (nI a) (nI b) = nI j := by
  have h := hd_int v (nI a) (nI b) (nI_le hab hb)
  rw [nI_toInt (by omega), nI_toInt hb] at h
  obtain ⟨j, hj, e⟩ := nI_b (x := hd v (nI a) (nI b)) (by rw [h]; split <;> (try split) <;> omega)
  refine ⟨j, ?_, ?_, e⟩
  · rw [h] at hj
    split at hj <;> (try split at hj) <;> omega
  · rw [h] at hj
    split at hj <;> (try split at hj) <;> omega
theorem p_pt_rg (τ : Int32 → Int32 → List Int32) (g : Nat → Nat → Int32) (one : Int32) : ∃ j, j ≤ 99 ∧ p_pt τ g one = nI j := by
  unfold p_pt
  split
  · exact ⟨0, by decide, rfl⟩
  · obtain ⟨j, _, h2, e⟩ := hd_rg (if it (g 3) 5 one = 1 then 2 * p_mx (tl τ (g 0 11) 1 (p_nm g one (p_bj g (it (g 5) 5 one))))
      else if it (g 3) 5 one = 2 then p_mx (tl τ (g 0 11) 1 (p_nm g one (p_bj g (it (g 5) 5 one)))) + 1
      else if it (g 3) 5 one = 3 then 2 * p_mx (tl τ (g 0 11) 1 (p_nm g one (p_bj g (it (g 5) 5 one)))) + it (g 4) 5 one
      else if it (g 3) 5 one = 4 then (p_mx (tl τ (g 0 11) 1 (p_nm g one (p_bj g (it (g 5) 5 one)))) + 1) / 2
      else p_mx (tl τ (g 0 11) 1 (p_nm g one (p_bj g (it (g 5) 5 one))))) (a := 0) (b := 99) (by decide) (by decide)
    exact ⟨j, h2, e⟩
theorem p_min_hd {a b : Nat} (ha : a < 1000) (hb : b ≤ 99) : hd (nI a + nI b) 0 999 = p_min (nI a + nI b) := by
  rw [nI_add]
  have h := hd_int (nI (a + b)) 0 999 (by decide)
  have e0 : (0 : Int32).toInt = 0 := rfl
  have e9 : (999 : Int32).toInt = 999 := rfl
  rw [nI_toInt (by omega), e0, e9] at h
  apply Int32.toInt_inj.mp
  unfold p_min
  by_cases c : nI (a + b) < 999
  · have c' := Int32.lt_iff_toInt_lt.mp c
    rw [nI_toInt (by omega), e9] at c'
    rw [if_pos c, h, nI_toInt (by omega)]
    split <;> (try split) <;> omega
  · have c' : ¬ (nI (a + b)).toInt < (999 : Int32).toInt := fun e => c (Int32.lt_iff_toInt_lt.mpr e)
    rw [nI_toInt (by omega), e9] at c'
    rw [if_neg c, h, e9]
    split <;> (try split) <;> omega
theorem b01_nI {x : Int32} (h : b01 x) : ∃ j : Nat, j ≤ 1 ∧ x = nI j := by
  rcases h with rfl | rfl
  · exact ⟨0, by decide, rfl⟩
  · exact ⟨1, by decide, rfl⟩
theorem rg_upd {f : Nat → Int32} {n m k v : Nat} (h : rg f n m) (hv : v < m) : rg (upd f k (nI v)) n m := by
  intro j hj
  unfold upd
  by_cases e : j = k
  · exact ⟨v, hv, if_pos e⟩
  · obtain ⟨u, hu, eu⟩ := h j hj
    exact ⟨u, hu, (if_neg e).trans eu⟩
theorem p_min_rg {a b : Nat} (ha : a < 1000) (hb : b ≤ 99) : ∃ j, j < 1000 ∧ p_min (nI a + nI b) = nI j := by
  rw [← p_min_hd ha hb]
  obtain ⟨j, _, h, e⟩ := hd_rg (nI a + nI b) (a := 0) (b := 999) (by decide) (by decide)
  exact ⟨j, by omega, e⟩
theorem gok_y1 {τ : Int32 → Int32 → List Int32} {g : Nat → Nat → Int32} {p : Nat} {road : Int32} (hg : gok g) (hp : p < 5) (hr : b01 road) : gok (p_y1 τ g (nI p) road) := by
  obtain ⟨k0, k1, k2, k3, k4, k5, k6, k7⟩ := hg
  obtain ⟨c, hc, ec⟩ := k5 p hp
  obtain ⟨r, hr, er⟩ := b01_nI hr
  obtain ⟨v, hv, ev⟩ := p_pt_rg τ g (nI p)
  have hat : it (g 5) 5 (nI p) = nI c := by rw [it_nI _ hp (by decide), ec]
  unfold p_y1
  rw [er, ev, hat, x2_1, x2_0, pk_sub (by omega), nI_add, it_nI _ (show 2 * c + 1 - r < 24 by omega) (by decide), it_nI _ (show 2 * c + r < 24 by omega) (by decide), pu_nI _ _ (show 2 * c + 1 - r < 24 by omega) (by decide), pu_nI _ _ hp (by decide)]
  obtain ⟨u, hu, eu⟩ := k2 (2 * c + 1 - r) (by omega)
  obtain ⟨w, hw, ew⟩ := k1 (2 * c + r) (by omega)
  rw [eu, ew]
  obtain ⟨m, hm, em⟩ := p_min_rg hu hv
  rw [em]
  exact ⟨k0, k1, rg_upd k2 hm, k3, k4, rg_upd k5 hw, k6, k7⟩
theorem gok_yl {τ : Int32 → Int32 → List Int32} {g : Nat → Nat → Int32} {t : Int32} (hg : gok g) : ∀ k, k ≤ 5 → gok (p_yl τ t g k)
  | 0, _ => hg
  | k + 1, hk => by
    have ih := gok_yl (τ := τ) (t := t) hg k (by omega)
    refine gok_y1 ih (by omega) ?_
    have h01 : b01 (p_tk τ (p_yl τ t g k) (nI k)) := p_tk_01 (by omega) ih.2.2.2.2.1
    unfold p_rt
    split
    · exact b01_sub h01
    · exact h01
theorem gok_0 {g : Nat → Nat → Int32} {f : Nat → Int32} (hg : gok g) (hf : f 9 = g 0 9) : gok (gset g 0 f) := by
  obtain ⟨⟨L, hL, eL⟩, k⟩ := hg
  exact ⟨⟨L, hL, hf.trans eL⟩, k⟩
theorem gok_yr {τ : Int32 → Int32 → List Int32} {g : Nat → Nat → Int32} {t : Int32} (hg : gok g) : gok (p_yr τ t g) := by
  unfold p_yr p_ny
  refine gok_0 (gok_yl hg _ ?_) rfl
  obtain ⟨⟨L, hL, eL⟩, k⟩ := hg
  rw [eL, nI_clamp (by omega)]
  exact hL
