/-! the model: a year -/
theorem nI_b {x : Int32} (h : 0 ≤ x.toInt) : ∃ j : Nat, (j : Int) = x.toInt ∧ x = nI j := by
  refine ⟨x.toInt.toNat, by omega, ?_⟩
  have := Int32.toInt_lt x
  apply Int32.toInt_inj.mp
  rw [nI_toInt (by omega)]
  omega
theorem rem2 (x : Nat) (hx : x < 2 ^ 31) : nI x - nI x / 2 * 2 = nI (x % 2) := pk_rem (d := 2) hx (by decide) (by decide)
theorem nI_01 (x : Nat) : nI (x % 2) = 0 ∨ nI (x % 2) = 1 := by
  rcases (show x % 2 = 0 ∨ x % 2 = 1 by omega) with h | h
  · rw [h]
    exact Or.inl rfl
  · rw [h]
    exact Or.inr rfl
def b01 (x : Int32) : Prop := x = 0 ∨ x = 1
theorem b01_sub {x : Int32} (h : b01 x) : b01 (1 - x) := by
  rcases h with rfl | rfl
  · exact Or.inr rfl
  · exact Or.inl rfl
theorem p_tk_01 {τ : Int32 → Int32 → List Int32} {g : Nat → Nat → Int32} {p : Nat} (hp : p < 5) (h4 : rg (g 4) 5 10) : b01 (p_tk τ g (nI p)) := by
  have b1 : ∀ x, b01 x → b01 (p_r1 g (nI p) x) := by
    intro x hx
    unfold p_r1
    split
    · exact hx
    · split
      · exact Or.inr rfl
      · exact hx
  have b2 : ∀ x, b01 x → b01 (p_r2 g (nI p) x) := by
    intro x hx
    unfold p_r2
    split
    · split
      · exact hx
      · exact b01_sub hx
    · exact hx
  unfold p_tk
  split
  · obtain ⟨v, hv, e⟩ := h4 p hp
    rw [it_nI _ hp (by decide), e, rem2 v (by omega)]
    exact nI_01 v
  · split
    · exact Or.inl rfl
    · split
      · split
        · exact Or.inl rfl
        · exact Or.inr rfl
      · refine b2 _ (b1 _ ?_)
        split
        · exact Or.inl rfl
        · exact Or.inr rfl
theorem hd_rg (v : Int32) {a b : Nat} (hab : a ≤ b) (hb : b < 2 ^ 31) : ∃ j, a ≤ j ∧ j ≤ b ∧ hd v (nI a) (nI b) = nI j := by
  have h := hd_int v (nI a) (nI b) (nI_le hab hb)
  rw [nI_toInt (by omega), nI_toInt hb] at h
  obtain ⟨j, hj, e⟩ := nI_b (x := hd v (nI a) (nI b)) (by rw [h]; split <;> (try split) <;> omega)
  refine ⟨j, ?_, ?_, e⟩
  · rw [h] at hj
    split at hj <;> (try split at hj) <;> omega
  · rw [h] at hj
    split at hj <;> (try split at hj) <;> omega
theorem p_pt_rg (τ : Int32 → Int32 → List Int32) (g : Nat → Nat → Int32) (one : Int32) : ∃ j, j ≤ 99 ∧ p_pt τ g one = nI j := by
  unfold p_pt
  split
  · exact ⟨0, by decide, rfl⟩
  · obtain ⟨j, _, h2, e⟩ := hd_rg (if it (g 3) 5 one = 1 then 2 * p_mx (tl τ (g 0 11) 1 (p_nm g one (p_bj g (it (g 5) 5 one))))
      else if it (g 3) 5 one = 2 then p_mx (tl τ (g 0 11) 1 (p_nm g one (p_bj g (it (g 5) 5 one)))) + 1
      else if it (g 3) 5 one = 3 then 2 * p_mx (tl τ (g 0 11) 1 (p_nm g one (p_bj g (it (g 5) 5 one)))) + it (g 4) 5 one
      else if it (g 3) 5 one = 4 then (p_mx (tl τ (g 0 11) 1 (p_nm g one (p_bj g (it (g 5) 5 one)))) + 1) / 2
      else p_mx (tl τ (g 0 11) 1 (p_nm g one (p_bj g (it (g 5) 5 one))))) (a := 0) (b := 99) (by decide) (by decide)
    exact ⟨j, h2, e⟩
theorem gm_wi55 (S : ri_H) {k : Nat} (hk : k < 24) (v : Int32) : gm (ri_wi S 55 k v) = gset (gm S) 2 (upd (gm S 2) k v) := by
  funext o
  unfold gset
  by_cases h : o = 2
  · subst h
    rw [if_pos rfl]
    funext j
    show nz 24 ((ri_wi S 55 k v).1 55) j = upd (nz 24 (S.1 55)) k v j
    rw [ri_wi_1]
    unfold nz upd
    by_cases e : j = k
    · subst e
      simp [hk]
    · simp [e]
  · rw [if_neg h]
    unfold gm
    rw [ri_wi_o S (c := 54) (k := 55) _ _ (by decide), ri_wi_o S (c := 56) (k := 55) _ _ (by decide), ri_wi_o S (c := 50) (k := 55) _ _ (by decide)]
    simp only [if_neg h]
theorem gm_wi56_5 (S : ri_H) {p : Nat} (hp : p < 5) (v : Int32) : gm (ri_wi S 56 (5 * p + 1) v) = gset (gm S) 5 (upd (gm S 5) p v) := by
  funext o
  unfold gset
  by_cases h : o = 5
  · subst h
    rw [if_pos rfl]
    funext j
    show nz 5 (fun q => (ri_wi S 56 (5 * p + 1) v).1 56 (5 * q + 1)) j = upd (nz 5 (fun q => S.1 56 (5 * q + 1))) p v j
    rw [ri_wi_1]
    unfold nz upd
    by_cases e : j = p
    · subst e
      simp [hp]
    · have : ¬ (5 * j = 5 * p) := by omega
      simp [e, this]
  · rw [if_neg h]
    unfold gm
    rw [ri_wi_o S (c := 54) (k := 56) _ _ (by decide), ri_wi_o S (c := 55) (k := 56) _ _ (by decide), ri_wi_o S (c := 50) (k := 56) _ _ (by decide), ri_wi_1]
    have n4 : (fun q => upd (S.1 56) (5 * p + 1) v (5 * q + 4)) = fun q => S.1 56 (5 * q + 4) := by
      funext q
      unfold upd
      rw [if_neg (by omega)]
    have n0 : (fun q => upd (S.1 56) (5 * p + 1) v (5 * q)) = fun q => S.1 56 (5 * q) := by
      funext q
      unfold upd
      rw [if_neg (by omega)]
    have n2 : (fun q => upd (S.1 56) (5 * p + 1) v (5 * q + 2)) = fun q => S.1 56 (5 * q + 2) := by
      funext q
      unfold upd
      rw [if_neg (by omega)]
    have n3 : (fun q => upd (S.1 56) (5 * p + 1) v (5 * q + 3)) = fun q => S.1 56 (5 * q + 3) := by
      funext q
      unfold upd
      rw [if_neg (by omega)]
    rw [n4, n0, n2, n3]
    simp only [if_neg h]
