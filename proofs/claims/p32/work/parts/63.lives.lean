/-! lives -/
section LIVES
variable {a b g d : Int32} {S S0 : ri_H} {T : Nat} {τ : Int32 → Int32 → List Int32}
theorem pick5 {P0 P1 P2 P3 X : Prop} {a : Int32} {s : Nat} (hs : s < 4) (ha : a = nI s) (h0 : s = 0 → P0) (h1 : s = 1 → P1) (h2 : s = 2 → P2) (h3 : s = 3 → P3) : (a = 0 → P0) ∧ (a = 1 → P1) ∧ (a = 2 → P2) ∧ (a = 3 → P3) ∧ (wi a 4 = 0 → X) := by
  subst ha
  refine ⟨fun c => h0 (nI_inj (b := 0) (by omega) (by decide) c), fun c => h1 (nI_inj (b := 1) (by omega) (by decide) c), fun c => h2 (nI_inj (b := 2) (by omega) (by decide) c), fun c => h3 (nI_inj (b := 3) (by omega) (by decide) c), fun c => ?_⟩
  exact absurd ((wi_1 (n := 4) hs (by decide)).symm.trans c) (by decide)
end LIVES
