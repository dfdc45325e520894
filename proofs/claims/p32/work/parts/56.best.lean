/-! best -/
def p_sp (τ : Int32 → Int32 → List Int32) (g : Nat → Nat → Int32) (one : Int32) : Nat → Int32 × Int32
  | 0 => (-1, 0)
  | k + 1 => if it (g 2) 24 (nI k) ≤ 0 then p_sp τ g one k else if (p_sp τ g one k).1 = -1 then (nI k, p_fl τ g one (nI k)) else if p_fl τ g one (nI k) ≤ (p_sp τ g one k).2 then p_sp τ g one k else (nI k, p_fl τ g one (nI k))
theorem p_sp_inv (τ : Int32 → Int32 → List Int32) (g : Nat → Nat → Int32) (one : Int32) : ∀ k, p_sp τ g one k = (-1, 0) ∨ ∃ j, j < k ∧ p_sp τ g one k = (nI j, p_fl τ g one (nI j))
  | 0 => Or.inl rfl
  | k + 1 => by
    unfold p_sp
    have ih : p_sp τ g one k = (-1, 0) ∨ ∃ j, j < k + 1 ∧ p_sp τ g one k = (nI j, p_fl τ g one (nI j)) := by
      rcases p_sp_inv τ g one k with h | ⟨j, hj, h⟩
      · exact Or.inl h
      · exact Or.inr ⟨j, by omega, h⟩
    by_cases c1 : it (g 2) 24 (nI k) ≤ 0
    · rw [if_pos c1]
      exact ih
    · rw [if_neg c1]
      by_cases c2 : (p_sp τ g one k).1 = -1
      · rw [if_pos c2]
        exact Or.inr ⟨k, by omega, rfl⟩
      · rw [if_neg c2]
        by_cases c3 : p_fl τ g one (nI k) ≤ (p_sp τ g one k).2
        · rw [if_pos c3]
          exact ih
        · rw [if_neg c3]
          exact Or.inr ⟨k, by omega, rfl⟩
def p_sf (g : Nat → Nat → Int32) : Nat → Int32 × Int32
  | 0 => (-1, 0)
  | k + 1 => if it (g 2) 24 (nI k) ≤ (p_sf g k).2 then p_sf g k else (nI k, it (g 2) 24 (nI k))
section BEST
variable {a b : Int32} {S S0 : ri_H} {T : Nat} {τ : Int32 → Int32 → List Int32}
theorem l7_ok {Q : Int32 → ri_H → Prop} {one : Int32} (h : R T τ S0) (hQ : ∀ S', ag CX S0 S' → Q (p_sp τ (gm S0) one 24).1 S') : ∀ d k S, k + d = 24 → ag CX S0 S → w87_l7 Q (d + 1) one (p_sp τ (gm S0) one k).1 (p_sp τ (gm S0) one k).2 (nI k) S
  | 0, k, S, hk, a => by
    have hk' : k = 24 := hk
    subst hk'
    unfold w87_l7
    exact ⟨fun _ => hQ S a, fun c => absurd (show (24 : Int32) ≤ nI 24 by decide) c⟩
  | d + 1, k, S, hk, a => by
    unfold w87_l7 w87_b52 w87_b58
    have h1 := R_c h a
    have g1 : gm S = gm S0 := c_gm a
    rw [gw_it S 10 2 24 rfl (by decide), R_w h1, g1, nI_1]
    have nx : ∀ S', ag CX S0 S' → w87_l7 Q (d + 1) one (p_sp τ (gm S0) one (k + 1)).1 (p_sp τ (gm S0) one (k + 1)).2 (nI (k + 1)) S' := fun S' a' => l7_ok h hQ d (k + 1) S' (by omega) a'
    unfold p_sp at nx
    refine ⟨fun c => absurd c (nI_ge (b := 24) (by omega) (by decide)), fun _ => ⟨fun c => ?_, fun c => w42_ok (Or.inl rfl) (R_tc h1) (fun S1 a1 => ?_)⟩⟩
    · have q := nx S a
      rw [if_pos c] at q
      exact q
    · have q := nx S1 (ag_tr a (ag_mo a1 (by decide)))
      rw [if_neg c] at q
      rw [R_w h1, g1]
      refine ⟨fun c2 => ?_, fun c2 => ⟨fun c3 => ?_, fun c3 => ?_⟩⟩
      · rw [if_pos c2] at q
        exact q
      · rw [if_neg c2, if_pos c3] at q
        exact q
      · rw [if_neg c2, if_neg c3] at q
        exact q
theorem l6_ok {Q : Int32 → ri_H → Prop} (hQ : Q (p_sf (gw S 10) 24).1 S) : ∀ d k, k + d = 24 → w88_l6 Q (d + 1) (p_sf (gw S 10) k).1 (p_sf (gw S 10) k).2 (nI k) S
  | 0, k, hk => by
    have hk' : k = 24 := hk
    subst hk'
    unfold w88_l6
    exact ⟨fun _ => hQ, fun c => absurd (show (24 : Int32) ≤ nI 24 by decide) c⟩
  | d + 1, k, hk => by
    unfold w88_l6 w88_b36
    rw [gw_it S 10 2 24 rfl (by decide), nI_1]
    have q := l6_ok hQ d (k + 1) (by omega)
    unfold p_sf at q
    refine ⟨fun c => absurd c (nI_ge (b := 24) (by omega) (by decide)), fun _ => ⟨fun c => ?_, fun c => ?_⟩⟩
    · rw [if_pos c] at q
      exact q
    · rw [if_neg c] at q
      exact q
end BEST
/-! image, back -/
/-! taken -/
