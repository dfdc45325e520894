/-! the model: a year -/
theorem nI_b {x : Int32} (h : 0 ≤ x.toInt) : ∃ j : Nat, (j : Int) = x.toInt ∧ x = nI j := by
  refine ⟨x.toInt.toNat, by omega, ?_⟩
  have := Int32.toInt_lt x
  apply Int32.toInt_inj.mp
  rw [nI_toInt (by omega)]
  omega
theorem rem2 (x : Nat) (hx : x < 2 ^ 31) : nI x - nI x / 2 * 2 = nI (x % 2) := pk_rem (d := 2) hx (by decide) (by decide)
theorem nI_01 (x : Nat) : nI (x % 2) = 0 ∨ nI (x % 2) = 1 := by
  rcases (show x % 2 = 0 ∨ x % 2 = 1 by omega) with h | h
  · rw [h]
    exact Or.inl rfl
  · rw [h]
    exact Or.inr rfl
def b01 (x : Int32) : Prop := x = 0 ∨ x = 1
theorem b01_sub {x : Int32} (h : b01 x) : b01 (1 - x) := by
  rcases h with rfl | rfl
  · exact Or.inr rfl
  · exact Or.inl rfl
theorem p_tk_01 {τ : Int32 → Int32 → List Int32} {g : Nat → Nat → Int32} {p : Nat} (hp : p < 5) (h4 : rg (g 4) 5 10) : b01 (p_tk τ g (nI p)) := by
  have b1 : ∀ x, b01 x → b01 (p_r1 g (nI p) x) := by
    intro x hx
    unfold p_r1
    split
    · exact hx
    · split
      · exact Or.inr rfl
      · exact hx
  have b2 : ∀ x, b01 x → b01 (p_r2 g (nI p) x) := by
    intro x hx
    unfold p_r2
    split
    · split
      · exact hx
      · exact b01_sub hx
    · exact hx
  unfold p_tk
  split
  · obtain ⟨v, hv, e⟩ := h4 p hp
    rw [it_nI _ hp (by decide), e, rem2 v (by omega)]
    exact nI_01 v
  · split
    · exact Or.inl rfl
    · split
      · split
        · exact Or.inl rfl
        · exact Or.inr rfl
      · refine b2 _ (b1 _ ?_)
        split
        · exact Or.inl rfl
        · exact Or.inr rfl
theorem hd_rg (v : Int32) {a b : Nat} (hab : a ≤ b) (hb : b < 2 ^ 31) : ∃ j, a ≤ j ∧ j ≤ b ∧ hd v (nI a) (nI b) = nI j := by
  have h := hd_int v (nI a) (nI b) (nI_le hab hb)
  rw [nI_toInt (by omega), nI_toInt hb] at h
  obtain ⟨j, hj, e⟩ := nI_b (x := hd v (nI a) (nI b)) (by rw [h]; split <;> (try split) <;> omega)
  refine ⟨j, ?_, ?_, e⟩
  · rw [h] at hj
    split at hj <;> (try split at hj) <;> omega
  · rw [h] at hj
    split at hj <;> (try split at hj) <;> omega
theorem p_pt_rg (τ : Int32 → Int32 → List Int32) (g : Nat → Nat → Int32) (one : Int32) : ∃ j, j ≤ 99 ∧ p_pt τ g one = nI j := by
  unfold p_pt
  split
  · exact ⟨0, by decide, rfl⟩
  · obtain ⟨j, _, h2, e⟩ := hd_rg (if it (g 3) 5 one = 1 then 2 * p_mx (tl τ (g 0 11) 1 (p_nm g one (p_bj g (it (g 5) 5 one))))
      else if it (g 3) 5 one = 2 then p_mx (tl τ (g 0 11) 1 (p_nm g one (p_bj g (it (g 5) 5 one)))) + 1
      else if it (g 3) 5 one = 3 then 2 * p_mx (tl τ (g 0 11) 1 (p_nm g one (p_bj g (it (g 5) 5 one)))) + it (g 4) 5 one
      else if it (g 3) 5 one = 4 then (p_mx (tl τ (g 0 11) 1 (p_nm g one (p_bj g (it (g 5) 5 one)))) + 1) / 2
      else p_mx (tl τ (g 0 11) 1 (p_nm g one (p_bj g (it (g 5) 5 one))))) (a := 0) (b := 99) (by decide) (by decide)
    exact ⟨j, h2, e⟩
