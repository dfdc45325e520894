/-! turns, likely, drawn, chance -/
section TURNS
variable {a b g d : Int32} {S : ri_H} {Q : Int64 → Int64 → ri_H → Prop} {T : Nat} {τ : Int32 → Int32 → List Int32}
theorem sh1L : ∀ n, n < 31 → (1 : Int64) <<< ((nI n).toInt64 &&& 63) = lN (2 ^ n) := by decide +kernel
end TURNS
/-! by lot -/
